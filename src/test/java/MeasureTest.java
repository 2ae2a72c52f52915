/** Promises 13 to 17: what is measured at the present tick. */
public final class MeasureTest {
    private MeasureTest() {
    }

    public static void main(String[] args) {
        joinedWithoutFaults();
        joinedByShorts();
        joinedBesideCuts();
        status();
        echoWithoutFaults();
        echoOfFaults();
        echoRounding();
        crosstalk();
        identify();
        Check.finish();
    }

    private static void joinedWithoutFaults() {
        CableTester x = new CableTester();
        for (int pin = 0; pin < 8; pin++) {
            Answers.dueJoined(x, pin, 0, 1 << pin, 0);
            Check.due("joined(1, " + pin + ", 0)", x.joined(1, pin, 0), 1 << pin);
        }
        x.exchange(0, 0, 1);
        x.exchange(1, 1, 7);
        Answers.dueJoined(x, 0, 0, 1 << 7, 0);
        Answers.dueJoined(x, 1, 0, 1, 0);
        Answers.dueJoined(x, 7, 0, 1 << 1, 0);
        Check.due("joined(1, 1, 0)", x.joined(1, 1, 0), 1 << 7);
        Check.due("joined(1, 7, 0)", x.joined(1, 7, 0), 1);
    }

    private static void joinedByShorts() {
        CableTester x = new CableTester();
        x.connect(1, 2, 30, 1, 1);
        Answers.dueJoined(x, 1, 0b100, 0b110, 0b100);
        Answers.dueJoined(x, 2, 0b010, 0b110, 0b010);
        Check.due("joined(1, 1, 0)", x.joined(1, 1, 0), 0b110);
        x.connect(5, 2, 10, 2, 1);
        Answers.dueJoined(x, 1, 0b100100, 0b100110, 0b100100);
        Answers.dueJoined(x, 5, 0b000110, 0b100110, 0b000110);
        x.pass(1);
        Answers.dueJoined(x, 1, 0b100, 0b110, 0b100);
        Answers.dueJoined(x, 5, 0, 0b100000, 0);
        // over a piece that reaches no pin
        x.begin(100, 66);
        x.cut(1, 20, 1, 1);
        x.cut(1, 40, 1, 1);
        x.connect(1, 2, 30, 1, 1);
        x.connect(3, 1, 35, 1, 1);
        Answers.dueJoined(x, 1, 0, 0, 0);
        Answers.dueJoined(x, 2, 0b1000, 0b1100, 0b1000);
        Answers.dueJoined(x, 3, 0b0100, 0b1100, 0b0100);
        // pieces of two wires between the same cuts
        x.begin(100, 66);
        x.cut(6, 50, 1, 1);
        x.connect(6, 7, 49, 1, 1);
        x.connect(6, 0, 51, 1, 1);
        Answers.dueJoined(x, 6, 1 << 7, 1 << 7, 1);
        Answers.dueJoined(x, 0, 0, 0b1000001, 1 << 6);
        Answers.dueJoined(x, 7, 1 << 6, 1 << 7, 0);
    }

    private static void joinedBesideCuts() {
        CableTester x = new CableTester();
        x.connect(1, 2, 30, 1, 1);
        x.cut(1, 30, 1, 1);
        Answers.dueJoined(x, 1, 0b100, 0b100, 0);
        Answers.dueJoined(x, 2, 0b010, 0b100, 0);
        Check.due("the far side is cut off", x.joined(1, 1, 0), 0);
        x.cut(2, 30, 1, 1);
        Answers.dueJoined(x, 1, 0b100, 0, 0);
        x.begin(100, 66);
        x.cut(1, 29, 1, 1);
        x.connect(1, 2, 30, 1, 1);
        Answers.dueJoined(x, 1, 0, 0, 0b100);
        Answers.dueJoined(x, 2, 0, 0b110, 0b010);
        x.begin(100, 66);
        x.cut(1, 31, 1, 1);
        x.connect(1, 2, 30, 1, 1);
        Answers.dueJoined(x, 1, 0b100, 0b100, 0);
        Answers.dueJoined(x, 2, 0b010, 0b100, 0);
        // two cuts at one place
        x.begin(2, 66);
        x.cut(4, 1, 1, 1);
        x.cut(4, 1, 2, 1);
        x.connect(4, 3, 1, 1, 1);
        Answers.dueJoined(x, 4, 0b1000, 0b1000, 0);
        Answers.dueJoined(x, 3, 0b10000, 0b1000, 0);
    }

    private static void status() {
        CableTester x = new CableTester();
        Check.due("good", x.status(0), 0);
        x.cut(0, 10, 2, 1);
        Check.due("open", x.status(0), 1);
        x.exchange(1, 2, 3);
        Check.due("crossed", x.status(2), 2);
        x.connect(4, 5, 20, 1, 1);
        Check.due("shorted", x.status(4), 3);
        Check.due("shorted", x.status(5), 3);
        x.cut(4, 30, 1, 1);
        x.cut(5, 30, 1, 1);
        Check.due("shorted without far pins", x.status(4), 3);
        x.connect(6, 7, 40, 1, 1);
        x.cut(7, 39, 1, 1);
        Check.due("two far pins", x.status(6), 3);
        Check.due("open", x.status(7), 1);
        x.pass(1);
        Check.due("good when the cut is absent", x.status(0), 0);
        // joined over another wire to its own far pin alone, and to another far pin alone
        x.begin(100, 66);
        x.connect(0, 1, 10, 1, 1);
        x.connect(0, 1, 90, 1, 1);
        x.cut(1, 5, 1, 1);
        x.cut(0, 50, 1, 1);
        x.cut(1, 95, 1, 1);
        Check.due("good over another wire", x.status(0), 0);
        Check.due("cut off", x.status(1), 1);
        x.exchange(1, 0, 1);
        Check.due("crossed over another wire", x.status(0), 2);
    }

    private static void echoWithoutFaults() {
        CableTester x = new CableTester();
        // 20000 / 198 is 101.01, 198 * 101 / 200 is 99.99
        dueEcho(x, 3, 0, 101, 100, 100);
        x.plug(5);
        dueEcho(x, 3, -1, -1, -1, -1);
        x.cut(3, 30, 2, 1);
        // 6000 / 198 is 30.3, 198 * 30 / 200 is 29.7
        dueEcho(x, 3, 0, 30, 30, 30);
        x.pass(1);
        dueEcho(x, 3, -1, -1, -1, -1);
    }

    private static void echoOfFaults() {
        CableTester x = new CableTester();
        x.cut(3, 60, 1, 1);
        x.connect(2, 3, 60, 1, 1);
        Answers.dueKindAndPlace(x, 3, 1, 60);
        Answers.dueKindAndPlace(x, 2, 1, 60);
        Answers.dueKindAndPlace(x, 1, 0, 100);
        x.cut(3, 59, 3, 1);
        Answers.dueKindAndPlace(x, 3, 0, 59);
        x.connect(3, 0, 58, 2, 1);
        Answers.dueKindAndPlace(x, 3, 1, 58);
        Answers.dueKindAndPlace(x, 0, 1, 58);
        x.pass(1);
        Answers.dueKindAndPlace(x, 3, 1, 60);
        Answers.dueKindAndPlace(x, 0, 0, 100);
        x.exchange(0, 3, 7);
        Answers.dueKindAndPlace(x, 7, 1, 60);
        Answers.dueKindAndPlace(x, 3, 0, 100);
        x.exchange(1, 3, 6);
        Answers.dueKindAndPlace(x, 7, 1, 60);
        // the short comes first also if it was added first
        x.begin(100, 66);
        x.connect(0, 1, 50, 1, 1);
        x.cut(0, 50, 1, 1);
        Answers.dueKindAndPlace(x, 0, 1, 50);
        // a cut or a short that was added later, but is farther away
        x.connect(0, 2, 51, 1, 1);
        Answers.dueKindAndPlace(x, 0, 1, 50);
        x.cut(1, 70, 1, 1);
        Answers.dueKindAndPlace(x, 1, 1, 50);
        x.cut(6, 40, 1, 1);
        x.connect(6, 5, 41, 1, 1);
        x.cut(6, 60, 1, 1);
        Answers.dueKindAndPlace(x, 6, 0, 40);
        x.connect(7, 5, 30, 1, 1);
        Answers.dueKindAndPlace(x, 5, 1, 30);
    }

    private static void echoRounding() {
        CableTester x = new CableTester();
        x.begin(999, 64);
        // 2400 / 192 is 12.5, 192 * 13 / 200 is 12.48
        x.cut(0, 12, 1, 1);
        dueEcho(x, 0, 0, 13, 12, 12);
        x.begin(999, 99);
        // 29600 / 297 is 99.66, 297 * 100 / 200 is 148.5
        x.cut(0, 148, 1, 1);
        dueEcho(x, 0, 0, 100, 149, 148);
        // 199800 / 297 is 672.73, 297 * 673 / 200 is 999.405
        dueEcho(x, 1, 0, 673, 999, 999);
        x.begin(2, 50);
        // 200 / 150 is 1.33, 150 * 1 / 200 is 0.75; 400 / 150 is 2.67, 150 * 3 / 200 is 2.25
        x.connect(0, 1, 1, 1, 1);
        dueEcho(x, 0, 1, 1, 1, 1);
        dueEcho(x, 2, 0, 3, 2, 2);
    }

    private static void crosstalk() {
        CableTester x = new CableTester();
        dueCrosstalk(x, 0, 0, 0, 0, 0, 0);
        x.exchange(0, 1, 2);
        dueCrosstalk(x, 2, 0, 0, 0, 0, 0);
        Check.due("crosstalk(0, 0)", x.crosstalk(0, 0), 0);
        x.exchange(1, 1, 2);
        dueCrosstalk(x, 2, 0, 0, 0, 0, 0);
        // near pins now on the wires 0 2 1 4 3 5 6 7
        x.exchange(0, 3, 4);
        dueCrosstalk(x, 1, 1, 0, 1, 0, 0);
        x.begin(100, 66);
        x.exchange(0, 0, 2);
        x.exchange(0, 1, 3);
        dueCrosstalk(x, 0, 0, 0, 0, 0, 0);
        x.exchange(1, 4, 7);
        dueCrosstalk(x, 0, 0, 0, 0, 0, 0);
    }

    private static void identify() {
        CableTester x = new CableTester();
        Check.due("no unit", x.identify(), CableTester.NONE);
        x.plug(42);
        Check.due("a unit", x.identify(), 42);
        x.cut(0, 10, 1, 1);
        x.cut(3, 10, 1, 1);
        x.cut(4, 10, 1, 1);
        Check.due("one pair is left", x.identify(), 42);
        x.cut(6, 10, 4, 2);
        Check.due("no pair is left", x.identify(), CableTester.NONE);
        x.pass(2);
        Check.due("a pair again", x.identify(), 42);
        for (int pair = 0; pair < 4; pair++) {
            identifyBy(pair);
        }
        x.begin(100, 66);
        x.plug(9);
        x.cut(5, 10, 1, 1);
        x.cut(7, 10, 1, 1);
        x.exchange(0, 1, 2);
        x.exchange(1, 1, 2);
        Check.due("pin 1 is good", x.status(1), 0);
        Check.due("good pins, but split pairs", x.identify(), CableTester.NONE);
        x.begin(100, 66);
        x.plug(9);
        x.exchange(0, 0, 2);
        x.exchange(0, 1, 3);
        x.exchange(0, 4, 6);
        x.exchange(0, 5, 7);
        Check.due("pairs that are not split, but crossed", x.identify(), CableTester.NONE);
        x.exchange(0, 5, 7);
        x.exchange(0, 4, 6);
        Check.due("two good pairs", x.identify(), 9);
    }

    /** One pair is left: its first and its second pin must both be good. */
    private static void identifyBy(int pair) {
        CableTester x = new CableTester();
        x.plug(1 + pair);
        for (int other = 0; other < 4; other++) {
            if (other != pair) {
                x.connect(2 * other, 2 * other + 1, 10, 1, 1);
            }
        }
        Check.due("identify by pair " + pair, x.identify(), 1 + pair);
        x.cut(2 * pair, 10, 1, 1);
        Check.due("its first pin is open", x.identify(), CableTester.NONE);
        x.repair(3);
        x.cut(2 * pair + 1, 10, 1, 1);
        Check.due("its second pin is open", x.identify(), CableTester.NONE);
    }

    private static void dueEcho(CableTester x, int pin, int kind, int time, int estimate, int place) {
        Check.due("echo(" + pin + ", 0)", x.echo(pin, 0), kind);
        Check.due("echo(" + pin + ", 1)", x.echo(pin, 1), time);
        Check.due("echo(" + pin + ", 2)", x.echo(pin, 2), estimate);
        Check.due("echo(" + pin + ", 3)", x.echo(pin, 3), place);
    }

    /** For the pairs 0 and 1, 0 and 2, 0 and 3, 1 and 2, 1 and 3, 2 and 3. */
    private static void dueCrosstalk(CableTester x, int... due) {
        int next = 0;
        for (int p = 0; p < 4; p++) {
            for (int q = p + 1; q < 4; q++) {
                Check.due("crosstalk(" + p + ", " + q + ")", x.crosstalk(p, q), due[next]);
                Check.due("crosstalk(" + q + ", " + p + ")", x.crosstalk(q, p), due[next]);
                next++;
            }
        }
    }
}
