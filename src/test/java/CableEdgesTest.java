/** The edges that the document names for cables and faults, and in the promises 1 to 8. */
public final class CableEdgesTest {
    private static final int LEAST = Integer.MIN_VALUE;
    private static final int MOST = Integer.MAX_VALUE;
    private static final int[] NO_PINS = {-1, 8, LEAST, MOST};
    private static final int[] NO_ENDS = {-1, 2, LEAST, MOST};

    private CableEdgesTest() {
    }

    public static void main(String[] args) {
        cables();
        ranges();
        faults();
        newObject();
        begin();
        exchange();
        cut();
        connect();
        repair();
        plug();
        pass();
        lastTick();
        Check.finish();
    }

    private static void cables() {
        Check.sentence("A cable has 8 wires, 0 to 7");
        for (int wire = 0; wire < 8; wire++) {
            CableTester x = new CableTester();
            Check.due("cut of wire " + wire, x.cut(wire, 50, 1, 1), 0);
            Check.due("its wire", x.fault(0, 1), wire);
            Check.due("the pin on it is open", x.status(wire), 1);
            Check.due("the only one", x.count(7), 1);
        }
        Check.sentence("the wires 2 k and 2 k + 1 are twisted together, for k from 0 to 3.");
        for (int k = 0; k < 4; k++) {
            CableTester x = new CableTester();
            x.exchange(0, 2 * k, 2 * k + 1);
            Check.due("twisted wires exchanged, k = " + k, x.count(8), 0);
            int next = (k + 1) % 4;
            x.begin(100, 66);
            x.exchange(0, 2 * k + 1, 2 * next);
            Check.due("wires that are not twisted, k = " + k, x.count(8), 1 << k | 1 << next);
        }
        Check.sentence("It has two ends, 0 (near) and 1 (far), each with 8 pins, 0 to 7.");
        CableTester ends = new CableTester();
        ends.exchange(0, 0, 7);
        Check.due("the near end's first pin", ends.wire(0, 0), 7);
        Check.due("the near end's last pin", ends.wire(0, 7), 0);
        Check.due("the far end's first pin", ends.wire(1, 0), 0);
        Check.due("the far end's last pin", ends.wire(1, 7), 7);
        Check.sentence("At each end, each pin is attached to a wire of its own; at first pin k is attached to wire k.");
        CableTester x = new CableTester();
        dueOwnWires(x);
        for (int i = 0; i < 40; i++) {
            x.exchange(i % 2, i % 8, (i % 8 + 1 + i % 7) % 8);
            Check.due("the wires of the near end", wiresOf(x, 0), 255);
            Check.due("the wires of the far end", wiresOf(x, 1), 255);
        }
    }

    private static void ranges() {
        Check.sentence("It has a length, 2 to 999 (in decimetres), and a velocity, 50 to 99 (percent of that of"
            + " light).");
        for (int length = 0; length <= 1001; length++) {
            int tried = length;
            boolean fits = length >= 2 && length <= 999;
            CableTester x = new CableTester();
            Check.dueText("begin(" + length + ", 66)", Check.outcome(() -> x.begin(tried, 66)),
                fits ? "100" : "java.lang.IllegalArgumentException");
            Check.due("the length", x.count(0), fits ? length : 100);
        }
        for (int velocity = 48; velocity <= 101; velocity++) {
            int tried = velocity;
            boolean fits = velocity >= 50 && velocity <= 99;
            CableTester x = new CableTester();
            Check.dueText("begin(100, " + velocity + ")", Check.outcome(() -> x.begin(100, tried)),
                fits ? "100" : "java.lang.IllegalArgumentException");
            Check.due("the velocity", x.count(1), fits ? velocity : 66);
        }
        Check.sentence("A remote unit with a number from 1 to 99 can be plugged in at the far end, which is 0 if there"
            + " is none.");
        CableTester x = new CableTester();
        Check.due("none", x.count(2), 0);
        for (int number = 1; number <= 99; number++) {
            Check.due("plug(" + number + ")", x.plug(number), number - 1);
            Check.due("the unit", x.count(2), number);
        }
        x.begin(100, 66);
        Check.due("none at a new cable", x.count(2), 0);
        Check.sentence("It has a period, 1 to 32, and a duration, 1 to the period");
        for (int period = 0; period <= 33; period++) {
            for (int duration = 0; duration <= 34; duration++) {
                dueTiming(period, duration);
            }
        }
    }

    private static void dueTiming(int period, int duration) {
        boolean fits = period >= 1 && period <= 32 && duration >= 1 && duration <= period;
        CableTester x = new CableTester();
        String due = fits ? "" : "java.lang.IllegalArgumentException";
        String timing = " with " + period + ":" + duration;
        Check.dueText("cut" + timing, Check.outcome(() -> x.cut(0, 1, period, duration)), fits ? "0" : due);
        Check.dueText("connect" + timing, Check.outcome(() -> x.connect(0, 1, 1, period, duration)), fits ? "1" : due);
        Check.due("faults" + timing, x.count(4), fits ? 2 : 0);
    }

    private static void dueOwnWires(CableTester x) {
        for (int pin = 0; pin < 8; pin++) {
            Check.due("wire(0, " + pin + ")", x.wire(0, pin), pin);
            Check.due("wire(1, " + pin + ")", x.wire(1, pin), pin);
        }
    }

    private static int wiresOf(CableTester x, int end) {
        int wires = 0;
        for (int pin = 0; pin < 8; pin++) {
            wires |= 1 << x.wire(end, pin);
        }
        return wires;
    }

    private static void faults() {
        Check.sentence("There are at most 10 faults, numbered from 0 in the order in which they were added.");
        CableTester x = new CableTester();
        for (int i = 0; i < 10; i++) {
            Check.due("fault " + i, i % 3 == 0 ? x.cut(1, 20 + i, 1, 1) : x.connect(1, 2, 20 + i, 1, 1), i);
            Check.due("faults", x.count(4), i + 1);
        }
        for (int i = 0; i < 10; i++) {
            Check.due("the place of fault " + i, x.fault(i, 3), 20 + i);
            Check.due("the kind of fault " + i, x.fault(i, 0), i % 3 == 0 ? 0 : 1);
        }
        Check.sentence("it is at a place, 1 to the length minus 1, which is the distance from the near end.");
        for (int length : new int[] {2, 3, 99, 998, 999}) {
            x.begin(length, 66);
            x.cut(0, 1, 1, 1);
            x.connect(2, 3, length - 1, 1, 1);
            Check.due("the nearest place", x.echo(0, 3), 1);
            Check.due("the farthest place", x.echo(2, 3), length - 1);
        }
        Check.sentence("it is present at tick t if t modulo the period is less than the duration.");
        for (int period = 1; period <= 32; period++) {
            duePresence(period, 1);
            duePresence(period, (period + 1) / 2);
            duePresence(period, Math.max(period - 1, 1));
            duePresence(period, period);
        }
        Check.sentence("The tick is 0 at first.");
        CableTester first = new CableTester();
        first.cut(0, 5, 32, 1);
        Check.due("the tick", first.count(3), 0);
        Check.due("a cut that is present at multiples of 32 alone", first.fault(0, 6), 1);
        Check.due("after a tick", first.pass(1), 1);
    }

    /** Over two periods and their turn. */
    private static void duePresence(int period, int duration) {
        CableTester x = new CableTester();
        x.cut(3, 10, period, duration);
        x.connect(4, 5, 10, period, duration);
        for (int tick = 0; tick <= 2 * period + 1; tick++) {
            int due = tick % period < duration ? 1 : 0;
            String when = " at " + tick + ", " + duration + " of " + period;
            Check.due("the cut is present" + when, x.fault(0, 6), due);
            Check.due("the short is present" + when, x.fault(1, 6), due);
            Check.due("the cut pin is open" + when, x.status(3), due);
            Check.due("the shorted pin is shorted" + when, x.status(4), 3 * due);
            x.pass(1);
        }
    }

    private static void newObject() {
        Check.sentence("Creates a cable with the length 100 and the velocity 66, without faults and remote unit,"
            + " and an empty buffer.");
        CableTester x = new CableTester();
        Check.due("the length", x.count(0), 100);
        Check.due("the velocity", x.count(1), 66);
        Check.due("the unit", x.count(2), 0);
        Check.due("faults", x.count(4), 0);
        Check.due("the buffer", x.firstError(), 0);
        Check.due("the buffer", x.clearBuffer(), 0);
        Check.due("the farthest place", x.cut(0, 99, 1, 1), 0);
        Check.dueRefusal(CableTester::new, Check.ARGUMENT, "a place too far", t -> t.cut(0, 100, 1, 1));
        Check.dueAlike("an object beside one that is used", new CableTester(), besideAUsedOne());
    }

    private static CableTester besideAUsedOne() {
        CableTester x = new CableTester();
        States.full();
        return x;
    }

    private static void begin() {
        Check.sentence("Begins with a new cable without faults and remote unit; pin k is attached to wire k at both"
            + " ends, the tick is 0, and there are no records. The buffer stays.");
        CableTester again = States.full();
        Check.due("begin", again.begin(100, 66), 999);
        dueOwnWires(again);
        for (int what = 0; what <= 3; what++) {
            Check.due("records(3, " + what + ")", again.records(3, what), 0);
        }
        Check.dueAlike("a full object that begins", again, Check.typed(States.FIFTY));
        Check.sentence("length: 2 to 999");
        CableTester x = new CableTester();
        Check.due("begin(2, 66)", x.begin(2, 66), 100);
        Check.due("the length", x.count(0), 2);
        Check.due("begin(999, 66)", x.begin(999, 66), 2);
        Check.due("the length", x.count(0), 999);
        Check.sentence("velocity: 50 to 99");
        x.begin(100, 50);
        Check.due("the velocity", x.count(1), 50);
        x.begin(100, 99);
        Check.due("the velocity", x.count(1), 99);
        Check.sentence("Returns the previous length.");
        Check.due("begin of a new object", new CableTester().begin(100, 66), 100);
        Check.due("begin with the same length", x.begin(100, 99), 100);
        Check.sentence("begin throws IllegalArgumentException if an argument is out of range");
        for (int length : new int[] {1, 0, -1, -100, 1000, LEAST, MOST}) {
            beginRefuses(length, 66);
        }
        for (int velocity : new int[] {49, 0, -66, 100, LEAST, MOST}) {
            beginRefuses(2, velocity);
            beginRefuses(999, velocity);
        }
        beginRefuses(1, 49);
        beginRefuses(1000, 100);
    }

    private static void beginRefuses(int length, int velocity) {
        String call = "begin(" + length + ", " + velocity + ")";
        Check.dueRefusal(CableTester::new, Check.ARGUMENT, call, t -> t.begin(length, velocity));
        Check.dueRefusal(States::full, Check.ARGUMENT, call, t -> t.begin(length, velocity));
    }

    private static void exchange() {
        Check.sentence("Returns the wire that is attached to the first pin afterwards.");
        CableTester x = new CableTester();
        Check.due("exchange(0, 0, 7)", x.exchange(0, 0, 7), 7);
        Check.due("exchange(0, 7, 0)", x.exchange(0, 7, 0), 7);
        Check.due("exchange(1, 7, 0)", x.exchange(1, 7, 0), 0);
        Check.due("exchange(1, 0, 7)", x.exchange(1, 0, 7), 0);
        Check.dueAlike("all exchanged twice", x, new CableTester());
        Check.sentence("exchange throws IllegalArgumentException if end is not 0 or 1, or both pins are the same");
        for (int end : NO_ENDS) {
            exchangeRefuses(Check.ARGUMENT, end, 0, 1);
        }
        for (int pin = 0; pin < 8; pin++) {
            exchangeRefuses(Check.ARGUMENT, pin % 2, pin, pin);
        }
        Check.sentence("exchange throws IndexOutOfBoundsException if one of the pins does not exist");
        for (int pin : NO_PINS) {
            exchangeRefuses(Check.INDEX, 0, pin, 1);
            exchangeRefuses(Check.INDEX, 1, pin, 1);
            exchangeRefuses(Check.INDEX, 0, 1, pin);
            exchangeRefuses(Check.INDEX, 1, 1, pin);
        }
        exchangeRefuses(Check.INDEX, 0, -1, 8);
        Check.sentence("If several exceptions apply, the one that is named first in the throws clause is thrown. (3)");
        exchangeRefuses(Check.ARGUMENT, 2, 8, 1);
        exchangeRefuses(Check.ARGUMENT, -1, 1, -1);
        exchangeRefuses(Check.ARGUMENT, 0, 8, 8);
        exchangeRefuses(Check.ARGUMENT, 1, -1, -1);
    }

    private static void exchangeRefuses(Class<? extends RuntimeException> kind, int end, int pin, int other) {
        String call = "exchange(" + end + ", " + pin + ", " + other + ")";
        Check.dueRefusal(States::full, kind, call, t -> t.exchange(end, pin, other));
    }

    private static void cut() {
        Check.sentence("cut: 1 to the length minus 1; 1 to 32; 1 to period. Returns the number of the fault.");
        CableTester x = new CableTester();
        Check.due("all least", x.cut(0, 1, 1, 1), 0);
        Check.due("all most", x.cut(7, 99, 32, 32), 1);
        Check.due("the period alone most", x.cut(7, 99, 32, 1), 2);
        Answers.dueFault(x, 0, 0, 0, -1, 1, 1, 1);
        Answers.dueFault(x, 1, 0, 7, -1, 99, 32, 32);
        Answers.dueFault(x, 2, 0, 7, -1, 99, 32, 1);
        Check.sentence("cut throws IndexOutOfBoundsException if the wire does not exist");
        for (int wire : NO_PINS) {
            cutRefuses(CableTester::new, Check.INDEX, wire, 5, 1, 1);
        }
        Check.sentence("cut throws IllegalArgumentException if another argument is out of range");
        for (int[] other : otherArguments()) {
            cutRefuses(CableTester::new, Check.ARGUMENT, 0, other[0], other[1], other[2]);
        }
        cutRefuses(States::shortest, Check.ARGUMENT, 0, 2, 1, 1);
        cutRefuses(States::shortest, Check.ARGUMENT, 0, 0, 1, 1);
        Check.sentence("cut throws IllegalStateException if there are 10 faults");
        cutRefuses(States::full, Check.STATE, 0, 1, 1, 1);
        cutRefuses(States::full, Check.STATE, 7, 998, 32, 32);
        CableTester roomy = States.full();
        roomy.repair(9);
        Check.due("a 10th fault", roomy.cut(0, 1, 1, 1), 9);
        Check.sentence("If several exceptions apply, the one that is named first in the throws clause is thrown. (4)");
        cutRefuses(CableTester::new, Check.INDEX, 8, 0, 1, 1);
        cutRefuses(CableTester::new, Check.INDEX, -1, 5, 33, 34);
        cutRefuses(States::full, Check.INDEX, 8, 5, 1, 1);
        cutRefuses(States::full, Check.ARGUMENT, 0, 999, 1, 1);
        cutRefuses(States::full, Check.ARGUMENT, 0, 5, 33, 1);
        cutRefuses(States::full, Check.ARGUMENT, 0, 5, 5, 6);
    }

    private static void cutRefuses(Check.Maker maker, Class<? extends RuntimeException> kind, int wire, int place,
            int period, int duration) {
        String call = "cut(" + wire + ", " + place + ", " + period + ", " + duration + ")";
        Check.dueRefusal(maker, kind, call, t -> t.cut(wire, place, period, duration));
    }

    /** Place, period and duration, of which one or more are out of range for the length 100. */
    private static int[][] otherArguments() {
        return new int[][] {
            {0, 1, 1}, {-1, 1, 1}, {100, 1, 1}, {101, 1, 1}, {LEAST, 1, 1}, {MOST, 1, 1},
            {5, 0, 1}, {5, 0, 0}, {5, -1, 1}, {5, -1, -1}, {5, 33, 1}, {5, 33, 33}, {5, LEAST, 1}, {5, MOST, 1},
            {5, 1, 0}, {5, 32, 0}, {5, 1, 2}, {5, 31, 32}, {5, 32, 33}, {5, 3, -1}, {5, 3, LEAST}, {5, 3, MOST},
            {0, 0, 0}, {100, 33, 34},
        };
    }

    private static void connect() {
        Check.sentence("connect: 1 to the length minus 1; 1 to 32; 1 to period. Returns the number of the fault.");
        CableTester x = new CableTester();
        Check.due("all least", x.connect(0, 1, 1, 1, 1), 0);
        Check.due("all most", x.connect(7, 6, 99, 32, 32), 1);
        Check.due("the period alone most", x.connect(0, 7, 99, 32, 1), 2);
        Answers.dueFault(x, 0, 1, 0, 1, 1, 1, 1);
        Answers.dueFault(x, 1, 1, 7, 6, 99, 32, 32);
        Answers.dueFault(x, 2, 1, 0, 7, 99, 32, 1);
        Check.sentence("connect throws IndexOutOfBoundsException if one of the wires does not exist");
        for (int wire : NO_PINS) {
            connectRefuses(CableTester::new, Check.INDEX, wire, 1, 5, 1, 1);
            connectRefuses(CableTester::new, Check.INDEX, 1, wire, 5, 1, 1);
        }
        Check.sentence("connect throws IllegalArgumentException if both wires are the same, or another argument is"
            + " out of range");
        for (int wire = 0; wire < 8; wire++) {
            connectRefuses(CableTester::new, Check.ARGUMENT, wire, wire, 5, 1, 1);
        }
        for (int[] other : otherArguments()) {
            connectRefuses(CableTester::new, Check.ARGUMENT, 0, 7, other[0], other[1], other[2]);
        }
        connectRefuses(States::shortest, Check.ARGUMENT, 0, 1, 2, 1, 1);
        Check.sentence("connect throws IllegalStateException if there are 10 faults");
        connectRefuses(States::full, Check.STATE, 0, 1, 1, 1, 1);
        connectRefuses(States::full, Check.STATE, 7, 6, 998, 32, 32);
        CableTester roomy = States.full();
        roomy.repair(0);
        Check.due("a 10th fault", roomy.connect(0, 1, 1, 1, 1), 9);
        Check.sentence("If several exceptions apply, the one that is named first in the throws clause is thrown. (5)");
        connectRefuses(CableTester::new, Check.INDEX, 8, 8, 5, 1, 1);
        connectRefuses(CableTester::new, Check.INDEX, 0, -1, 0, 1, 1);
        connectRefuses(States::full, Check.INDEX, 8, 0, 5, 1, 1);
        connectRefuses(States::full, Check.ARGUMENT, 3, 3, 5, 1, 1);
        connectRefuses(States::full, Check.ARGUMENT, 3, 4, 999, 1, 1);
        connectRefuses(States::full, Check.ARGUMENT, 3, 4, 5, 0, 1);
        connectRefuses(States::full, Check.ARGUMENT, 3, 4, 5, 5, 6);
    }

    private static void connectRefuses(Check.Maker maker, Class<? extends RuntimeException> kind, int... arguments) {
        StringBuilder call = new StringBuilder("connect(");
        for (int argument : arguments) {
            call.append(argument).append(' ');
        }
        Check.dueRefusal(maker, kind, call.append(')').toString(),
            t -> t.connect(arguments[0], arguments[1], arguments[2], arguments[3], arguments[4]));
    }

    private static void repair() {
        Check.sentence("Removes a fault; the numbers of the later ones decrease by 1.");
        for (int gone = 0; gone < 10; gone++) {
            CableTester x = tenCuts();
            Check.due("repair(" + gone + ")", x.repair(gone), 9);
            for (int i = 0; i < 9; i++) {
                Check.due("the place of fault " + i, x.fault(i, 3), i < gone ? 11 + i : 12 + i);
            }
        }
        Check.sentence("Returns how many faults are left.");
        CableTester x = tenCuts();
        for (int left = 9; left >= 0; left--) {
            Check.due("repair(" + left / 2 + ")", x.repair(left / 2), left);
        }
        Check.dueAlike("all repaired", x, new CableTester());
        Check.sentence("repair throws IndexOutOfBoundsException if the fault does not exist");
        for (int fault : new int[] {-1, 10, 11, LEAST, MOST}) {
            Check.dueRefusal(States::full, Check.INDEX, "repair(" + fault + ")", t -> t.repair(fault));
        }
        for (int fault : new int[] {-1, 0, 1, 9}) {
            Check.dueRefusal(CableTester::new, Check.INDEX, "repair(" + fault + ") of none", t -> t.repair(fault));
        }
        Check.dueRefusal(States::shortest, Check.INDEX, "repair(1) of one", t -> t.repair(1));
    }

    private static CableTester tenCuts() {
        CableTester x = new CableTester();
        for (int i = 0; i < 10; i++) {
            x.cut(i % 8, 11 + i, 1, 1);
        }
        return x;
    }

    private static void plug() {
        Check.sentence("number: 1 to 99, 0 to take it away. Returns the previous number.");
        CableTester x = new CableTester();
        Check.due("plug(0) without a unit", x.plug(0), 0);
        Check.due("plug(1)", x.plug(1), 0);
        Check.due("the unit", x.count(2), 1);
        Check.due("plug(99), in place of another one", x.plug(99), 1);
        Check.due("the unit", x.count(2), 99);
        Check.due("plug(99) again", x.plug(99), 99);
        Check.due("plug(0)", x.plug(0), 99);
        Check.due("the unit", x.count(2), 0);
        Check.dueAlike("the unit is taken away", x, new CableTester());
        Check.sentence("plug throws IllegalArgumentException if number is not 0 to 99");
        for (int number : new int[] {-1, -99, 100, LEAST, MOST}) {
            Check.dueRefusal(States::full, Check.ARGUMENT, "plug(" + number + ")", t -> t.plug(number));
            Check.dueRefusal(CableTester::new, Check.ARGUMENT, "plug(" + number + ")", t -> t.plug(number));
        }
    }

    private static void pass() {
        Check.sentence("Lets ticks pass, one after another.");
        for (int ticks : new int[] {2, 63, 64, 65, 100}) {
            CableTester atOnce = States.shortest();
            atOnce.pass(ticks);
            CableTester stepwise = States.shortest();
            for (int i = 1; i <= ticks; i++) {
                Check.due("a tick", stepwise.pass(1), i);
            }
            Check.dueAlike("pass(" + ticks + ")", atOnce, stepwise);
        }
        Check.sentence("ticks: 1 to 100. Returns the tick afterwards.");
        CableTester x = new CableTester();
        Check.due("pass(1)", x.pass(1), 1);
        Check.due("pass(100)", x.pass(100), 101);
        Check.due("the tick", x.count(3), 101);
        Check.sentence("pass throws IllegalArgumentException if ticks is not 1 to 100");
        for (int ticks : new int[] {0, -1, -100, 101, LEAST, MOST}) {
            Check.dueRefusal(States::full, Check.ARGUMENT, "pass(" + ticks + ")", t -> t.pass(ticks));
        }
    }

    /** Only a run of more than 512 calls comes that far; there is no other way to the limit. */
    private static void lastTick() {
        Check.sentence("pass throws IllegalStateException if the tick would be greater than 100000");
        for (int missing : new int[] {0, 1, 50, 99}) {
            int tooMany = missing + 1;
            Check.Maker late = () -> States.beforeLastTick(missing);
            Check.dueRefusal(late, Check.STATE, "pass(" + tooMany + ")", t -> t.pass(tooMany));
            Check.dueRefusal(late, Check.STATE, "pass(100)", t -> t.pass(100));
        }
        for (int missing : new int[] {1, 50, 100}) {
            Check.due("pass(" + missing + ")", States.beforeLastTick(missing).pass(missing), 100000);
        }
        Check.sentence("If several exceptions apply, the one that is named first in the throws clause is thrown. (8)");
        Check.dueRefusal(() -> States.beforeLastTick(0), Check.ARGUMENT, "pass(101) at the end", t -> t.pass(101));
        Check.dueRefusal(() -> States.beforeLastTick(0), Check.ARGUMENT, "pass(0) at the end", t -> t.pass(0));
        Check.sentence("the tick is 0 after begin, also at the end");
        CableTester x = States.beforeLastTick(0);
        x.begin(100, 66);
        Check.due("pass(100)", x.pass(100), 100);
    }
}
