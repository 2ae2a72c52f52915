/** The edges that the document names in the promises 23 to 25 and 27. */
public final class StateEdgesTest {
    private static final int LEAST = Integer.MIN_VALUE;
    private static final int MOST = Integer.MAX_VALUE;
    private static final int NONE = CableTester.NONE;

    private StateEdgesTest() {
    }

    public static void main(String[] args) {
        count();
        countRefuses();
        fault();
        faultRefuses();
        wire();
        digest();
        asking();
        refusedCalls();
        Check.finish();
    }

    private static void count() {
        Check.sentence("what: 0: the length; 1: the velocity; 2: the number of the remote unit; 3: the tick; 4: faults;"
            + " 5: faults that are present; 6: nets; 7: near pins that are wrong; 8: split pairs, as a bit mask");
        CableTester x = new CableTester();
        Answers.dueCounts(x, 100, 66, 0, 0, 0, 0, 8, 0, 0);
        x.begin(2, 50);
        Answers.dueCounts(x, 2, 50, 0, 0, 0, 0, 8, 0, 0);
        for (int wire = 0; wire < 8; wire++) {
            x.cut(wire, 1, 2, 1);
        }
        x.cut(0, 1, 1, 1);
        x.connect(1, 2, 1, 2, 1);
        Answers.dueCounts(x, 2, 50, 0, 0, 10, 10, 15, 8, 0);
        x.pass(1);
        Answers.dueCounts(x, 2, 50, 0, 1, 10, 1, 9, 1, 0);
        x.begin(999, 99);
        x.plug(99);
        x.exchange(0, 1, 2);
        x.exchange(0, 5, 6);
        for (int wire = 1; wire < 8; wire++) {
            x.connect(0, wire, 998, 1, 1);
        }
        x.pass(100);
        Answers.dueCounts(x, 999, 99, 99, 100, 7, 7, 1, 8, 15);
        Check.due("ten ticks before the last one", States.beforeLastTick(10).count(3), 99990);
        Check.due("the last tick", States.beforeLastTick(0).count(3), 100000);
    }

    private static void countRefuses() {
        Check.sentence("count throws IllegalArgumentException if what is not 0 to 8");
        for (int what : new int[] {-1, 9, LEAST, MOST}) {
            Check.dueRefusal(States::full, Check.ARGUMENT, "count(" + what + ")", t -> t.count(what));
            Check.dueRefusal(CableTester::new, Check.ARGUMENT, "count(" + what + ")", t -> t.count(what));
        }
    }

    private static void fault() {
        Check.sentence("what: 0: its kind; 1: the wire; 2: the other wire, NONE for a cut; 3: its place; 4: its period;"
            + " 5: its duration; 6: 1 if it is present, else 0");
        CableTester x = new CableTester();
        x.begin(999, 66);
        x.cut(0, 1, 1, 1);
        x.cut(7, 998, 32, 32);
        x.connect(0, 7, 1, 32, 1);
        x.connect(7, 0, 998, 32, 31);
        for (int i = 4; i < 10; i++) {
            x.connect(i % 8, (i + 1) % 8, 100 + i, 20 + i, i);
        }
        Answers.dueFault(x, 0, 0, 0, NONE, 1, 1, 1, 1);
        Answers.dueFault(x, 1, 0, 7, NONE, 998, 32, 32, 1);
        Answers.dueFault(x, 2, 1, 0, 7, 1, 32, 1, 1);
        Answers.dueFault(x, 3, 1, 7, 0, 998, 32, 31, 1);
        for (int i = 4; i < 10; i++) {
            Answers.dueFault(x, i, 1, i % 8, (i + 1) % 8, 100 + i, 20 + i, i, 1);
        }
        x.pass(1);
        Answers.dueFault(x, 2, 1, 0, 7, 1, 32, 1, 0);
        Answers.dueFault(x, 3, 1, 7, 0, 998, 32, 31, 1);
        x.pass(30);
        Answers.dueFault(x, 0, 0, 0, NONE, 1, 1, 1, 1);
        Answers.dueFault(x, 1, 0, 7, NONE, 998, 32, 32, 1);
        Answers.dueFault(x, 3, 1, 7, 0, 998, 32, 31, 0);
        x.pass(1);
        Answers.dueFault(x, 2, 1, 0, 7, 1, 32, 1, 1);
        Answers.dueFault(x, 3, 1, 7, 0, 998, 32, 31, 1);
    }

    private static void faultRefuses() {
        Check.sentence("fault throws IndexOutOfBoundsException if the fault does not exist");
        for (int fault : new int[] {-1, 10, 11, LEAST, MOST}) {
            for (int what = 0; what <= 6; what++) {
                faultRefuses(States::full, Check.INDEX, fault, what);
            }
        }
        for (int fault : new int[] {-1, 0, 1, 9}) {
            faultRefuses(CableTester::new, Check.INDEX, fault, 0);
        }
        faultRefuses(States::shortest, Check.INDEX, 1, 0);
        faultRefuses(StateEdgesTest::repaired, Check.INDEX, 9, 0);
        Check.sentence("fault throws IllegalArgumentException if what is not 0 to 6");
        for (int what : new int[] {-1, 7, LEAST, MOST}) {
            faultRefuses(States::full, Check.ARGUMENT, 0, what);
            faultRefuses(States::full, Check.ARGUMENT, 9, what);
        }
        Check.sentence("If several exceptions apply, the one that is named first in the throws clause is thrown. (24)");
        faultRefuses(States::full, Check.INDEX, 10, 7);
        faultRefuses(States::full, Check.INDEX, -1, -1);
        faultRefuses(CableTester::new, Check.INDEX, 0, 7);
    }

    private static CableTester repaired() {
        CableTester x = States.full();
        x.repair(0);
        return x;
    }

    private static void faultRefuses(Check.Maker maker, Class<? extends RuntimeException> kind, int fault, int what) {
        Check.dueRefusal(maker, kind, "fault(" + fault + ", " + what + ")", t -> t.fault(fault, what));
    }

    private static void wire() {
        Check.sentence("Returns the wire that is attached to a pin.");
        CableTester x = new CableTester();
        x.exchange(0, 0, 7);
        x.exchange(1, 3, 4);
        int[][] due = {{7, 1, 2, 3, 4, 5, 6, 0}, {0, 1, 2, 4, 3, 5, 6, 7}};
        for (int end = 0; end <= 1; end++) {
            for (int pin = 0; pin < 8; pin++) {
                Check.due("wire(" + end + ", " + pin + ")", x.wire(end, pin), due[end][pin]);
            }
        }
        Check.sentence("wire throws IllegalArgumentException if end is not 0 or 1");
        for (int end : new int[] {-1, 2, LEAST, MOST}) {
            wireRefuses(Check.ARGUMENT, end, 0);
            wireRefuses(Check.ARGUMENT, end, 7);
        }
        Check.sentence("wire throws IndexOutOfBoundsException if the pin does not exist");
        for (int pin : new int[] {-1, 8, LEAST, MOST}) {
            wireRefuses(Check.INDEX, 0, pin);
            wireRefuses(Check.INDEX, 1, pin);
        }
        Check.sentence("If several exceptions apply, the one that is named first in the throws clause is thrown. (25)");
        wireRefuses(Check.ARGUMENT, 2, 8);
        wireRefuses(Check.ARGUMENT, -1, -1);
    }

    private static void wireRefuses(Class<? extends RuntimeException> kind, int end, int pin) {
        Check.dueRefusal(States::full, kind, "wire(" + end + ", " + pin + ")", t -> t.wire(end, pin));
    }

    private static void digest() {
        Check.sentence("NONE = -1: There is nothing to return.");
        Check.due("NONE", CableTester.NONE, -1);
        Check.sentence("The hash starts at 2011.");
        Check.due("a new object", new CableTester().digest(), hashOfNewObject());
        Check.sentence("For each value v of the following list, in order, the hash becomes 31 * hash + v, in long"
            + " arithmetic with overflow.");
        dueDigest(new CableTester(), "");
        dueDigest(States.shortest(), "");
        dueDigest(States.full(), States.FIFTY);
        CableTester x = new CableTester();
        for (int i = 0; i < 10; i++) {
            x.cut(i % 8, 1 + i, 1 + i, 1);
            dueDigest(x, "");
        }
        Check.sentence("the length of the buffer and each of its character codes.");
        CableTester y = new CableTester();
        for (int i = 1; i <= 50; i++) {
            y.append(States.FIFTY.charAt(i - 1));
            dueDigest(y, States.FIFTY.substring(0, i));
        }
        y.clearBuffer();
        dueDigest(y, "");
        Check.due("what stood in the buffer is forgotten", y.digest(), new CableTester().digest());
        dueDigest(Check.typed("!~"), "!~");
        Check.dueTrue("the order counts", Check.typed("ab").digest() != Check.typed("ba").digest());
    }

    /** All values of a new object, as the document says them: 20000 / 198 is 101.01, 198 * 101 / 200 is 99.99. */
    private static long hashOfNewObject() {
        long hash = hashOn(2011, 100, 66, 0, 0, 0, 0, 8, 0, 0);
        for (int k = 0; k < 8; k++) {
            hash = hashOn(hash, k, k, 0, 1 << k, 0, 0);
            hash = hashOn(hash, 0, 101, 100, 100);
            hash = hashOn(hash, 0, 0, 0, 0, NONE, k);
        }
        hash = hashOn(hash, 0, 0, 0, 0, 0, 0);
        return hashOn(hash, NONE, NONE, 0, 0, 0, 0, 0, 0);
    }

    private static long hashOn(long start, int... values) {
        long hash = start;
        for (int value : values) {
            hash = 31 * hash + value;
        }
        return hash;
    }

    private static void dueDigest(CableTester x, String buffer) {
        Check.due("digest", x.digest(), StateTest.hashOfAnswers(x, buffer));
    }

    /** One after another on the same object, so that nothing is mended in between. */
    private static void refusedCalls() {
        Check.sentence("A call that throws an exception changes nothing.");
        CableTester x = States.full();
        Check.Ask[] calls = {
            t -> t.begin(1000, 66), t -> t.begin(100, 49), t -> t.exchange(0, 3, 3), t -> t.exchange(1, 3, 8),
            t -> t.cut(8, 1, 1, 1), t -> t.cut(1, 999, 1, 1), t -> t.cut(1, 1, 1, 1), t -> t.connect(0, 8, 1, 1, 1),
            t -> t.connect(0, 1, 1, 1, 2), t -> t.connect(0, 1, 1, 1, 1), t -> t.repair(10), t -> t.plug(100),
            t -> t.pass(0), t -> t.pass(101), t -> t.append(32), t -> t.append('n'), CableTester::load,
            t -> t.joined(2, 0, 0), t -> t.joined(0, 8, 0), t -> t.status(8), t -> t.echo(8, 0), t -> t.echo(0, 4),
            t -> t.crosstalk(4, 0), t -> t.records(8, 0), t -> t.records(0, 5), t -> t.explain(5),
            t -> t.explained(8), t -> t.count(9), t -> t.fault(10, 0), t -> t.fault(0, 7), t -> t.wire(2, 0),
            t -> t.wire(0, 8),
        };
        for (int i = 0; i < calls.length; i++) {
            Check.Ask call = calls[i];
            Check.dueTrue("refusal " + i, Check.outcome(() -> call.of(x)).startsWith("java.lang.I"));
        }
        Check.dueAlike("after all refusals", x, States.full());
    }

    /** All calls that only ask, with all their arguments; none of them may change what comes. */
    private static void asking() {
        Check.sentence("Nothing is promised beyond the answers and state changes described above");
        Check.Maker[] makers = {CableTester::new, States::shortest, States::full};
        for (Check.Maker maker : makers) {
            CableTester asked = maker.make();
            StateTest.hashOfAnswers(asked, "");
            asked.nextChange();
            asked.firstError();
            asked.wrongShare();
            asked.digest();
            Check.dueAlike("after all questions", asked, maker.make());
        }
    }
}
