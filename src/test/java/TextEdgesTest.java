/** The edges that the document names for input texts, and in the promises 9 to 12. */
public final class TextEdgesTest {
    private static final String DIGITS = "0123456789";
    private static final String NOT_ZERO = "123456789";
    private static final String PINS = "01234567";
    private static final String LETTERS = "csnf";

    /** What stands in the buffer, and all characters that may follow it. */
    private static final String[][] FOLLOWERS = {
        {"", LETTERS},
        {"c", PINS}, {"c0", "@"}, {"c7", "@"}, {"c3@", NOT_ZERO},
        {"s", PINS}, {"s0", "1234567"}, {"s3", "0124567"}, {"s7", "0123456"}, {"s01", "@"}, {"s76@", NOT_ZERO},
        {"n", PINS}, {"n0", "1234567"}, {"n4", "0123567"}, {"n7", "0123456"}, {"n01", ";"}, {"n76;", LETTERS},
        {"f", PINS}, {"f0", "1234567"}, {"f5", "0123467"}, {"f7", "0123456"}, {"f10", ";"}, {"f67;", LETTERS},
        {"c0@1", DIGITS + "/;"}, {"c0@8", DIGITS + "/;"}, {"c0@9", DIGITS + "/;"},
        {"c0@10", DIGITS + "/;"}, {"c0@98", DIGITS + "/;"}, {"c0@99", "012345678/;"},
        {"c0@100", "/;"}, {"c0@989", "/;"}, {"c0@998", "/;"},
        {"s01@9", DIGITS + "/;"}, {"s01@99", "012345678/;"}, {"s01@998", "/;"},
        {"c0@1;", LETTERS}, {"c0@998;", LETTERS}, {"s01@1;", LETTERS},
        {"c0@1/", NOT_ZERO}, {"s01@998/", NOT_ZERO},
        {"c0@1/1", DIGITS + ":"}, {"c0@1/2", DIGITS + ":"}, {"c0@1/3", "012:"}, {"c0@1/4", ":"}, {"c0@1/9", ":"},
        {"c0@1/10", ":"}, {"c0@1/29", ":"}, {"c0@1/31", ":"}, {"c0@1/32", ":"}, {"s01@1/3", "012:"},
        {"c0@1/1:", "1"}, {"c0@1/2:", "12"}, {"c0@1/8:", "12345678"}, {"c0@1/9:", NOT_ZERO}, {"c0@1/10:", NOT_ZERO},
        {"c0@1/32:", NOT_ZERO}, {"s01@1/4:", "1234"},
        {"c0@1/1:1", ";"}, {"c0@1/9:1", ";"}, {"c0@1/9:9", ";"}, {"c0@1/10:1", "0;"}, {"c0@1/10:2", ";"},
        {"c0@1/10:9", ";"}, {"c0@1/15:1", "012345;"}, {"c0@1/19:1", DIGITS + ";"}, {"c0@1/20:2", "0;"},
        {"c0@1/29:2", DIGITS + ";"}, {"c0@1/32:2", DIGITS + ";"}, {"c0@1/32:3", "012;"}, {"c0@1/32:4", ";"},
        {"c0@1/10:10", ";"}, {"c0@1/32:32", ";"}, {"s01@1/20:2", "0;"}, {"s01@1/32:32", ";"},
        {"c0@1/1:1;", LETTERS}, {"s01@1/32:32;", LETTERS},
    };

    private TextEdgesTest() {
    }

    public static void main(String[] args) {
        buffer();
        items();
        differentPins();
        timing();
        numbers();
        firstError();
        loadItems();
        loadRefusesTexts();
        loadRefusesPlaces();
        loadRefusesFaults();
        Check.finish();
    }

    private static void buffer() {
        Check.sentence("The buffer has at most 50 characters.");
        CableTester x = new CableTester();
        for (int i = 1; i <= 50; i++) {
            Check.due("append", x.append(States.FIFTY.charAt(i - 1)), i);
        }
        Check.due("a complete text of 50 characters", x.load(), 11);
        Check.sentence("code: the character code, 33 to 126. Returns the new length of the buffer.");
        for (int code = 33; code <= 126; code++) {
            CableTester one = new CableTester();
            int sign = code;
            Check.due("append(" + sign + ")", one.append(sign), 1);
            Check.due("append(" + sign + ") again", one.append(sign), 2);
        }
        Check.sentence("append throws IllegalArgumentException if code is not 33 to 126");
        int[] wrongCodes = {32, 31, 10, 0, -1, 127, 128, 255, 33 + 65536, Integer.MIN_VALUE, Integer.MAX_VALUE};
        for (int code : wrongCodes) {
            appendRefuses("", Check.ARGUMENT, code);
            appendRefuses("c0@", Check.ARGUMENT, code);
        }
        Check.sentence("append throws IllegalStateException if the buffer has 50 characters");
        appendRefuses(States.FIFTY, Check.STATE, ';');
        appendRefuses(States.FIFTY, Check.STATE, 33);
        appendRefuses(States.FIFTY, Check.STATE, 126);
        Check.due("a 50th", Check.typed(States.FIFTY.substring(1)).append('0'), 50);
        Check.sentence("If several exceptions apply, the one that is named first in the throws clause is thrown. (9)");
        appendRefuses(States.FIFTY, Check.ARGUMENT, 32);
        appendRefuses(States.FIFTY, Check.ARGUMENT, 127);
        Check.sentence("Clears the buffer. Returns the length that it had.");
        for (int length : new int[] {0, 1, 49, 50}) {
            CableTester typed = Check.typed(States.FIFTY.substring(0, length));
            Check.due("clearBuffer of " + length, typed.clearBuffer(), length);
            Check.due("clearBuffer again", typed.clearBuffer(), 0);
            Check.due("append after it", typed.append('c'), 1);
            Check.dueAlike("a cleared buffer", typed, Check.typed("c"));
        }
    }

    private static void appendRefuses(String before, Class<? extends RuntimeException> kind, int code) {
        Check.dueRefusal(() -> Check.typed(before), kind, "append(" + code + ")", t -> t.append(code));
    }

    private static void items() {
        Check.sentence("A text is one or more items separated by \";\".");
        dueNoText("");
        dueNoText(";");
        dueNoText("n01;");
        dueNoText(";n01");
        dueNoText("n01;;n01");
        dueNoText("n01n01");
        Check.due("one item", Check.typed("n01").load(), 1);
        Check.due("two items", Check.typed("n01;f01").load(), 2);
        Check.due("the most items", Check.typed("n01" + ";f76".repeat(11)).load(), 12);
        Check.sentence("a pin or a wire is a digit from 0 to 7");
        for (String letter : new String[] {"c", "s", "n", "f"}) {
            for (char sign = '/'; sign <= ':'; sign++) {
                int due = sign >= '0' && sign <= '7' ? 2 : 1;
                Check.due("firstError of " + letter + sign, Check.typed(letter + sign).firstError(), due);
            }
        }
        for (String begun : new String[] {"s3", "n3", "f3"}) {
            for (char sign = '/'; sign <= ':'; sign++) {
                int due = sign >= '0' && sign <= '7' && sign != '3' ? 3 : 2;
                Check.due("firstError of " + begun + sign, Check.typed(begun + sign).firstError(), due);
            }
        }
    }

    private static void differentPins() {
        Check.sentence("two of them in an item must be different");
        for (int one = 0; one < 8; one++) {
            for (int two = 0; two < 8; two++) {
                String both = "" + one + two;
                int due = one == two ? 2 : 3;
                Check.due("firstError of s" + both, Check.typed("s" + both).firstError(), due);
                Check.due("firstError of n" + both, Check.typed("n" + both).firstError(), due);
                Check.due("firstError of f" + both, Check.typed("f" + both).firstError(), due);
            }
        }
        dueNoText("s33@1");
        dueNoText("n00");
        dueNoText("f77");
        Check.due("the same ones in two items", Check.typed("n01;n01;f10;s01@1;s01@1;c0@1").load(), 6);
    }

    private static void timing() {
        Check.sentence("Without it, both are 1.");
        CableTester x = Check.typed("c0@1/32:31;c1@2;s23@3;s45@4/7:6;c6@5;n01");
        Check.due("load", x.load(), 6);
        int[][] due = {{32, 31}, {1, 1}, {1, 1}, {7, 6}, {1, 1}};
        for (int i = 0; i < due.length; i++) {
            Check.due("the period of fault " + i, x.fault(i, 4), due[i][0]);
            Check.due("the duration of fault " + i, x.fault(i, 5), due[i][1]);
            Check.due("the place of fault " + i, x.fault(i, 3), i + 1);
        }
    }

    private static void numbers() {
        Check.sentence("Numbers have no leading zeros and are not 0");
        for (String begun : new String[] {"c0@", "s01@", "c0@1/", "s01@1/", "c0@1/32:", "s01@1/32:"}) {
            Check.due("firstError of " + begun + "0", Check.typed(begun + "0").firstError(), begun.length());
            Check.due("firstError of " + begun + "01", Check.typed(begun + "01").firstError(), begun.length());
            Check.due("firstError of " + begun + "00", Check.typed(begun + "00").firstError(), begun.length());
            Check.due("firstError of " + begun + "10", Check.typed(begun + "10").firstError(), begun.length() + 2);
        }
        dueNoText("c0@0");
        dueNoText("c0@05");
        dueNoText("c0@5/01:1");
        dueNoText("c0@5/1:01");
        dueNoText("c0@5/0:0");
        Check.sentence("a place is at most 998");
        for (int place = 1; place <= 1100; place++) {
            dueNumber("c0@", place, 998);
            dueNumber("s76@", place, 998);
        }
        dueNumber("c0@", Integer.MAX_VALUE, 998);
        // 4294967301 is 5 in 32 bits
        Check.due("a place that wraps around", Check.typed("c0@4294967301").firstError(), 6);
        Check.sentence("a period at most 32");
        for (int period = 1; period <= 350; period++) {
            dueNumber("c0@1/", period, 32);
            dueNumber("s76@1/", period, 32);
        }
        Check.sentence("a duration at most the period.");
        for (int period = 1; period <= 32; period++) {
            for (int duration = 1; duration <= 40; duration++) {
                dueNumber("c0@1/" + period + ":", duration, period);
            }
        }
    }

    /** The first digit that makes the number too great is an error. */
    private static void dueNumber(String begun, int number, int most) {
        String digits = "" + number;
        int fitting = 0;
        while (fitting < digits.length() && Long.parseLong(digits.substring(0, fitting + 1)) <= most) {
            fitting++;
        }
        String text = begun + digits;
        Check.due("firstError of " + text, Check.typed(text).firstError(), begun.length() + fitting);
    }

    private static void firstError() {
        Check.sentence("a character is a syntax error if no text, of any length, begins with the characters before it"
            + " and this character.");
        for (String[] row : FOLLOWERS) {
            for (int code = 33; code <= 126; code++) {
                String text = row[0] + (char) code;
                int due = row[1].indexOf(code) >= 0 ? text.length() : row[0].length();
                Check.due("firstError of " + text, Check.typed(text).firstError(), due);
                Check.due("firstError of n34;" + text, Check.typed("n34;" + text).firstError(), due + 4);
            }
        }
        String longer = "n01;".repeat(12);
        Check.due("a text that goes on behind the full buffer", Check.typed(longer + "s0").firstError(), 50);
        Check.due("an error at its end", Check.typed(longer + "s8").firstError(), 49);
        Check.sentence("Returns the index of the first character that is a syntax error; the length of the buffer if"
            + " there is none.");
        Check.due("an empty buffer", new CableTester().firstError(), 0);
        Check.due("the first character", Check.typed("x").firstError(), 0);
        Check.due("the first of several", Check.typed("nx;x;n01").firstError(), 1);
        Check.due("what would be right alone comes too late", Check.typed("!n01").firstError(), 0);
        Check.due("a full buffer", Check.typed(States.FIFTY).firstError(), 50);
        CableTester x = Check.typed("c0@998x");
        Check.due("the cable's length does not matter", x.firstError(), 6);
        x.firstError();
        Check.dueAlike("firstError changes nothing", x, Check.typed("c0@998x"));
    }

    private static void loadItems() {
        Check.sentence("Carries out the items in the buffer, in their order, and clears the buffer.");
        CableTester x = Check.typed("n01;n12;f67;c7@1;s70@99/32:1;f07");
        Check.due("load", x.load(), 6);
        CableTester called = new CableTester();
        called.exchange(0, 0, 1);
        called.exchange(0, 1, 2);
        called.exchange(1, 6, 7);
        called.cut(7, 1, 1, 1);
        called.connect(7, 0, 99, 32, 1);
        called.exchange(1, 0, 7);
        Check.due("in their order", x.wire(0, 1), 2);
        Check.due("the buffer is empty", x.firstError(), 0);
        Check.dueAlike("load", x, called);
        Check.sentence("Returns the number of items.");
        Check.due("one", Check.typed("c0@99").load(), 1);
        Check.due("ten faults", Check.typed("c0@1" + ";c0@1".repeat(9)).load(), 10);
        Check.due("twelve exchanges", Check.typed("f01" + ";f01".repeat(11)).load(), 12);
    }

    private static void loadRefusesTexts() {
        Check.sentence("load throws IllegalArgumentException if the buffer is not a complete text");
        String[] begun = {
            "c", "c0", "c0@", "c0@1/", "c0@1/3", "c0@1/3:", "c0@1/32:", "s", "s0", "s01", "s01@", "s01@1/", "n", "n0",
            "f", "f0", "n01;c0@1;", "n01;c0@", "c0@1;s01@1/3:",
        };
        for (String text : begun) {
            Check.due("no error in " + text, Check.typed(text).firstError(), text.length());
            dueNoText(text);
        }
        String[] broken = {
            "x", "n01x", "c0@999", "c0@1/33:1", "c0@1/3:4", "n01;c8@1", "n01;f22", "c0@1:1", "c0@1/", "n01!", "n01;!",
        };
        for (String text : broken) {
            dueNoText(text);
        }
        dueNoText("n01;".repeat(12) + "n0");
        dueNoText("n01;".repeat(12) + "n");
        Check.sentence("load throws the exception that is named first, if several apply");
        dueNoText("c0@500;");
        dueNoText("c0@998;x");
        Check.dueRefusal(() -> tenFaults("c0@500;s"), Check.ARGUMENT, "load beside 10 faults", CableTester::load);
    }

    private static void loadRefusesPlaces() {
        Check.sentence("load throws IllegalStateException if a place in it is not less than the length of the cable");
        for (int length : new int[] {2, 3, 10, 100, 101, 998}) {
            loadRefuses(length, "c0@" + length);
            loadRefuses(length, "s01@" + length + "/32:1");
            loadRefuses(length, "s01@998");
            loadRefuses(length, "n01;c0@1;c0@" + length + ";f01");
            loadRefuses(length, "c0@" + length + ";c0@1");
            CableTester x = begun(length, "n01;c0@" + (length - 1) + ";s01@" + (length - 1) + ";f01");
            Check.due("the farthest place of " + length, x.load(), 4);
        }
        Check.due("the farthest place of all", begun(999, "c7@998").load(), 1);
        CableTester x = begun(50, "c0@50");
        x.begin(51, 66);
        Check.due("a refused text fits a longer cable", x.load(), 1);
    }

    private static void loadRefuses(int length, String text) {
        Check.dueRefusal(() -> begun(length, text), Check.STATE, "load of " + text, CableTester::load);
    }

    private static CableTester begun(int length, String text) {
        CableTester x = Check.typed(text);
        x.begin(length, 66);
        x.exchange(0, 3, 5);
        return x;
    }

    private static void loadRefusesFaults() {
        Check.sentence("load throws IllegalStateException if there would be more than 10 faults");
        Check.dueRefusal(() -> tenFaults("c0@1"), Check.STATE, "a cut", CableTester::load);
        Check.dueRefusal(() -> tenFaults("n01;s01@1;f01"), Check.STATE, "a short", CableTester::load);
        for (int there = 1; there <= 9; there++) {
            String text = "n01" + ";c0@1".repeat(10 - there);
            if (there >= 2) {
                int faults = there;
                Check.dueRefusal(() -> someFaults(faults, text + ";c0@1"), Check.STATE, "one too many beside " + there,
                    CableTester::load);
            }
            CableTester x = someFaults(there, text);
            Check.due("just enough beside " + there, x.load(), 11 - there);
            Check.due("faults", x.count(4), 10);
        }
        String ten = "c0@1" + ";c0@1".repeat(9);
        Check.dueRefusal(() -> someFaults(1, ten), Check.STATE, "10 beside 1", CableTester::load);
        Check.due("exchanges beside 10 faults", tenFaults("n01;f01").load(), 2);
        CableTester x = tenFaults("c0@1");
        x.repair(0);
        Check.due("a refused text fits after a repair", x.load(), 1);
    }

    private static CableTester tenFaults(String text) {
        return someFaults(10, text);
    }

    private static CableTester someFaults(int number, String text) {
        CableTester x = Check.typed(text);
        for (int i = 0; i < number; i++) {
            x.cut(i % 8, 50 + i, 1 + i, 1);
        }
        return x;
    }

    private static void dueNoText(String text) {
        Check.dueRefusal(() -> Check.typed(text), Check.ARGUMENT, "load of " + text, CableTester::load);
    }
}
