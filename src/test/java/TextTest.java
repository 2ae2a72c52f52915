/** Promises 9 to 12: the buffer and its texts. */
public final class TextTest {
    private static final String[] COMPLETE = {
        "c0@1", "c7@998", "c3@99", "c3@989", "c3@100", "s01@5", "s70@997", "n01", "n76", "f34", "f43",
        "c0@1/1:1", "c0@1/32:32", "c0@1/32:3", "c0@1/30:29", "c0@1/9:9", "s12@45/10:1", "c1@2;c1@2", "n01;f01;n01",
        "s01@5;c3@12/20:19;f12", "c0@1/2:1;n10", "c0@1/31:31", "c5@10/29:28",
    };
    /** Without a syntax error, but not complete. */
    private static final String[] BEGUN = {
        "", "c", "c0", "c0@", "c0@1/", "c0@1/3", "c0@1/3:", "c0@1/32", "s", "s0", "s01", "s01@", "n", "n0", "f", "f5",
        "n01;", "c0@1;", "c0@1/2:2;", "n01;c", "n01;s23@", "c0@998/32:",
    };
    /** The first error is the last character. */
    private static final String[] BROKEN = {
        "x", "C", "0", ";", "@", "c8", "c9", "c/", "s/", "s0/", "n5/", "c0@:", "cc", "c;", "c0;", "c01", "c0/", "c0@0",
        "c0@;", "c0@/", "c0@c", "c0@999",
        "c0@1000", "c0@1234", "c0@1:", "c0@1@", "c0@1s", "c0@1/0", "c0@1/;", "c0@1/:", "c0@1/33", "c0@1/40",
        "c0@1/320", "c0@1/100", "c0@1/3;", "c0@1/3:0", "c0@1/3:4", "c0@1/3:;", "c0@1/3:11", "c0@1/12:13",
        "c0@1/32:33", "c0@1/32:4x", "c0@1/9:1/", "c0@1/3:3:", "c0@1/9:10", "s00", "s8", "s08", "s0@", "s01;", "s012",
        "s01@0", "n00", "n8", "n18", "n0;", "n01@", "n012", "n01n", "f77", "f01/", "n01;;", "c0@1;;", "c0@1;x",
        "c0@1!", "c0@99a", "c0@1/1:2", "c0@1/2:20",
    };

    private TextTest() {
    }

    public static void main(String[] args) {
        append();
        firstError();
        loadItems();
        loadRefuses();
        Check.finish();
    }

    private static void append() {
        CableTester x = new CableTester();
        Check.due("append(33)", x.append(33), 1);
        Check.due("append(126)", x.append(126), 2);
        for (int i = 3; i <= 50; i++) {
            Check.due("append", x.append('n'), i);
        }
        Check.due("clearBuffer", x.clearBuffer(), 50);
        Check.due("clearBuffer again", x.clearBuffer(), 0);
        Check.due("append after it", x.append('n'), 1);
    }

    private static void firstError() {
        for (String text : COMPLETE) {
            Check.due("firstError of " + text, Check.typed(text).firstError(), text.length());
        }
        for (String text : BEGUN) {
            Check.due("firstError of " + text, Check.typed(text).firstError(), text.length());
        }
        for (String text : BROKEN) {
            Check.due("firstError of " + text, Check.typed(text).firstError(), text.length() - 1);
            Check.due("firstError of " + text + ";n", Check.typed(text + ";n").firstError(), text.length() - 1);
        }
        String full = "n01;n01;n01;n01;n01;n01;n01;n01;n01;n01;n01;n01;n0";
        CableTester x = Check.typed(full);
        Check.due("a text may be longer than the buffer", x.firstError(), 50);
        Check.due("firstError leaves the buffer", x.clearBuffer(), 50);
    }

    private static void loadItems() {
        CableTester x = Check.typed("s40@7/3:2;c6@99;n07;n01;f12;c6@5/32:31");
        Check.due("load", x.load(), 6);
        Check.due("the buffer is cleared", x.clearBuffer(), 0);
        int[][] due = {{1, 4, 0, 7, 3, 2, 1}, {0, 6, -1, 99, 1, 1, 1}, {0, 6, -1, 5, 32, 31, 1}};
        Check.due("faults", x.count(4), due.length);
        for (int i = 0; i < due.length; i++) {
            for (int what = 0; what <= 6; what++) {
                Check.due("fault(" + i + ", " + what + ")", x.fault(i, what), due[i][what]);
            }
        }
        int[] near = {1, 7, 2, 3, 4, 5, 6, 0};
        int[] far = {0, 2, 1, 3, 4, 5, 6, 7};
        for (int pin = 0; pin < 8; pin++) {
            Check.due("wire(0, " + pin + ")", x.wire(0, pin), near[pin]);
            Check.due("wire(1, " + pin + ")", x.wire(1, pin), far[pin]);
        }
        Check.type(x, "f21");
        Check.due("load of one item", x.load(), 1);
        Check.due("faults that were there stay", x.count(4), 3);
        Check.due("far pins back", x.wire(1, 1), 1);
    }

    private static void loadRefuses() {
        for (String text : BEGUN) {
            Check.dueRefusal(() -> Check.typed(text), Check.ARGUMENT, "load of " + text, CableTester::load);
        }
        for (String text : BROKEN) {
            Check.dueRefusal(() -> Check.typed(text), Check.ARGUMENT, "load of " + text, CableTester::load);
        }
        for (String text : COMPLETE) {
            CableTester x = Check.typed(text);
            x.begin(999, 66);
            Check.due("load of " + text, x.load(), text.split(";").length);
        }
    }
}
