/** The edges that the document names for joins, status, echoes and crosstalk, and in the promises 13 to 17. */
public final class MeasureEdgesTest {
    private static final int LEAST = Integer.MIN_VALUE;
    private static final int MOST = Integer.MAX_VALUE;
    private static final int NONE = CableTester.NONE;
    private static final int[] NO_PINS = {-1, 8, LEAST, MOST};
    private static final int[] NO_ENDS = {-1, 2, LEAST, MOST};

    private MeasureEdgesTest() {
    }

    public static void main(String[] args) {
        pieces();
        shortsAtCuts();
        joinedOverShorts();
        joined();
        status();
        statusRefuses();
        firstEvents();
        farEnd();
        rounding();
        echo();
        crosstalk();
        splitPairs();
        identify();
        Check.finish();
    }

    private static void pieces() {
        Check.sentence("At a tick, the cuts that are present divide each wire into pieces.");
        CableTester x = new CableTester();
        Answers.dueJoined(x, 3, 0, 1 << 3, 0);
        x.cut(3, 99, 2, 1);
        Answers.dueJoined(x, 3, 0, 0, 0);
        x.pass(1);
        Answers.dueJoined(x, 3, 0, 1 << 3, 0);
        for (int i = 1; i < 10; i++) {
            x.cut(3, 10 * i, 1, 1);
        }
        Answers.dueJoined(x, 3, 0, 0, 0);
        Answers.dueJoined(x, 2, 0, 1 << 2, 0);
        Answers.dueJoined(x, 4, 0, 1 << 4, 0);
        // ten cuts make eleven pieces; each of the eight wires may have the most
        for (int wire = 0; wire < 8; wire++) {
            CableTester y = new CableTester();
            for (int i = 0; i < 9; i++) {
                y.cut(wire, 10 + 10 * i, 1, 1);
            }
            y.connect(wire, (wire + 1) % 8, 99, 1, 1);
            Check.due("the last piece is at the far end", y.joined(1, wire, 1), 1 << (wire + 1) % 8);
            Check.due("the first piece is alone", y.joined(0, wire, 0) | y.joined(0, wire, 1), 0);
        }
    }

    private static void shortsAtCuts() {
        Check.sentence("at a cut at the same place of the wire, it is on the piece at the near side of the cut.");
        for (int place = 49; place <= 51; place++) {
            for (int order = 0; order < 4; order++) {
                CableTester x = shortAtCut(order, place);
                boolean nearSide = place <= 50;
                Check.due("near pins, " + place, x.joined(0, 4, 0), nearSide ? 1 << 2 : 0);
                Check.due("far pins, " + place, x.joined(1, 4, 1), nearSide ? 0 : 1 << 2);
                Check.due("near to far, " + place, x.joined(0, 2, 1), nearSide ? 1 << 2 : 1 << 2 | 1 << 4);
            }
        }
        CableTester both = new CableTester();
        both.cut(0, 50, 1, 1);
        both.cut(7, 50, 1, 1);
        both.connect(0, 7, 50, 1, 1);
        Answers.dueJoined(both, 0, 1 << 7, 0, 0);
        Answers.dueJoined(both, 7, 1, 0, 0);
        CableTester twice = new CableTester();
        twice.cut(0, 50, 1, 1);
        twice.cut(0, 50, 1, 1);
        twice.connect(7, 0, 50, 1, 1);
        Answers.dueJoined(twice, 0, 1 << 7, 1 << 7, 0);
        twice.cut(0, 49, 1, 1);
        Answers.dueJoined(twice, 0, 0, 0, 0);
        Answers.dueJoined(twice, 7, 0, 1 << 7, 0);
        // a cut that is not present now does not matter
        CableTester absent = new CableTester();
        absent.cut(0, 50, 2, 1);
        absent.connect(0, 7, 50, 1, 1);
        absent.pass(1);
        Answers.dueJoined(absent, 0, 1 << 7, 1 | 1 << 7, 1 << 7);
    }

    /** The wire 4 is cut at 50, and shorted to the wire 2; the order of all that does not matter. */
    private static CableTester shortAtCut(int order, int place) {
        CableTester x = new CableTester();
        if (order % 2 == 0) {
            x.cut(4, 50, 1, 1);
        }
        if (order < 2) {
            x.connect(2, 4, place, 1, 1);
        } else {
            x.connect(4, 2, place, 1, 1);
        }
        if (order % 2 != 0) {
            x.cut(4, 50, 1, 1);
        }
        return x;
    }

    private static void joinedOverShorts() {
        Check.sentence("Two pins (of the same end or not) are joined if their pieces are the same, or are joined by one"
            + " or several shorts.");
        CableTester x = new CableTester();
        for (int wire = 0; wire < 7; wire++) {
            x.connect(wire, wire + 1, 90 - 10 * wire, 1, 1);
            int chain = (1 << wire + 2) - 1;
            Answers.dueJoined(x, 0, chain & ~1, chain, chain & ~1);
            Answers.dueJoined(x, wire + 1, chain & ~(1 << wire + 1), chain, chain & ~(1 << wire + 1));
        }
        // a ring of shorts, and shorts between wires that are joined already
        x.connect(7, 0, 5, 1, 1);
        x.connect(7, 0, 5, 1, 1);
        x.connect(0, 7, 6, 1, 1);
        Answers.dueJoined(x, 4, 255 & ~(1 << 4), 255, 255 & ~(1 << 4));
        Check.due("one net", x.count(6), 1);
        // forth and back over pieces that have no pins
        CableTester y = new CableTester();
        y.cut(1, 20, 1, 1);
        y.cut(1, 80, 1, 1);
        y.cut(2, 20, 1, 1);
        y.cut(2, 80, 1, 1);
        y.connect(0, 1, 30, 1, 1);
        y.connect(2, 1, 40, 1, 1);
        y.connect(2, 3, 50, 1, 1);
        Answers.dueJoined(y, 0, 1 << 3, 1 | 1 << 3, 1 << 3);
        Answers.dueJoined(y, 1, 0, 0, 0);
        Answers.dueJoined(y, 2, 0, 0, 0);
    }

    private static void joined() {
        Check.sentence("Returns these pins, as a bit mask; without the pin itself.");
        CableTester x = new CableTester();
        for (int pin = 0; pin < 8; pin++) {
            Answers.dueJoined(x, pin, 0, 1 << pin, 0);
            Check.due("joined(1, " + pin + ", 0)", x.joined(1, pin, 0), 1 << pin);
        }
        for (int wire = 1; wire < 8; wire++) {
            x.connect(0, wire, 50, 1, 1);
        }
        for (int pin = 0; pin < 8; pin++) {
            Answers.dueJoined(x, pin, 255 & ~(1 << pin), 255, 255 & ~(1 << pin));
            Check.due("joined(1, " + pin + ", 0)", x.joined(1, pin, 0), 255);
        }
        Check.sentence("joined throws IllegalArgumentException if end or to is not 0 or 1");
        for (int end : NO_ENDS) {
            joinedRefuses(Check.ARGUMENT, end, 0, 0);
            joinedRefuses(Check.ARGUMENT, end, 7, 1);
            joinedRefuses(Check.ARGUMENT, 0, 0, end);
            joinedRefuses(Check.ARGUMENT, 1, 7, end);
        }
        Check.sentence("joined throws IndexOutOfBoundsException if the pin does not exist");
        for (int pin : NO_PINS) {
            joinedRefuses(Check.INDEX, 0, pin, 0);
            joinedRefuses(Check.INDEX, 0, pin, 1);
            joinedRefuses(Check.INDEX, 1, pin, 0);
            joinedRefuses(Check.INDEX, 1, pin, 1);
        }
        Check.sentence("If several exceptions apply, the one that is named first in the throws clause is thrown. (13)");
        joinedRefuses(Check.ARGUMENT, 2, 8, 0);
        joinedRefuses(Check.ARGUMENT, 0, 8, 2);
        joinedRefuses(Check.ARGUMENT, -1, -1, -1);
    }

    private static void joinedRefuses(Class<? extends RuntimeException> kind, int end, int pin, int to) {
        String call = "joined(" + end + ", " + pin + ", " + to + ")";
        Check.dueRefusal(States::full, kind, call, t -> t.joined(end, pin, to));
    }

    private static void status() {
        Check.sentence("The status of a near pin k, at a tick, is 3 (shorted) if it is joined to another near pin");
        CableTester near = new CableTester();
        near.connect(0, 7, 1, 1, 1);
        near.cut(0, 1, 1, 1);
        Check.due("another near pin, one far pin of its own", near.status(7), 3);
        Check.due("another near pin, one far pin of the other", near.status(0), 3);
        near.cut(7, 1, 1, 1);
        Check.due("another near pin, no far pin", near.status(0), 3);
        Check.due("another near pin, no far pin", near.status(7), 3);
        Check.sentence("or to two or more far pins");
        CableTester far = new CableTester();
        far.cut(0, 10, 1, 1);
        far.connect(0, 7, 20, 1, 1);
        Check.due("its own far pin and another one", far.status(7), 3);
        far.exchange(1, 7, 6);
        Check.due("two other far pins", far.status(7), 3);
        far.cut(1, 10, 1, 1);
        far.connect(1, 7, 20, 1, 1);
        Check.due("three far pins", far.status(7), 3);
        Check.sentence("otherwise 1 (open) if it is joined to no far pin");
        Check.due("neither near nor far pins", far.status(0), 1);
        Check.sentence("otherwise 2 (crossed) if it is joined to a far pin other than k");
        CableTester crossed = new CableTester();
        crossed.exchange(1, 0, 7);
        Check.due("the last far pin", crossed.status(0), 2);
        Check.due("the first far pin", crossed.status(7), 2);
        Check.due("a pin between them", crossed.status(3), 0);
        Check.sentence("otherwise 0 (good).");
        crossed.exchange(0, 0, 7);
        for (int pin = 0; pin < 8; pin++) {
            Check.due("on another wire, but to the far pin k, " + pin, crossed.status(pin), 0);
        }
        Check.sentence("The pin is wrong if its status is not 0.");
        for (int wrong = 0; wrong < 4; wrong++) {
            CableTester x = withStatus(wrong);
            Check.due("the status", x.status(2), wrong);
            x.pass(1);
            Check.due("it was wrong", x.records(2, 1), wrong == 0 ? 0 : 1);
        }
    }

    /** The near pin 2 has this status. */
    private static CableTester withStatus(int status) {
        CableTester x = new CableTester();
        if (status == 1) {
            x.cut(2, 5, 1, 1);
        } else if (status == 2) {
            x.exchange(1, 2, 3);
        } else if (status == 3) {
            x.connect(2, 3, 5, 1, 1);
        }
        return x;
    }

    private static void statusRefuses() {
        Check.sentence("status throws IndexOutOfBoundsException if the pin does not exist");
        for (int pin : NO_PINS) {
            Check.dueRefusal(States::full, Check.INDEX, "status(" + pin + ")", t -> t.status(pin));
        }
    }

    private static void firstEvents() {
        Check.sentence("A pulse that is sent into a near pin runs along its wire up to the first event on it: a cut or"
            + " short of this wire that is present");
        CableTester x = new CableTester();
        x.cut(3, 99, 1, 1);
        Answers.dueKindAndPlace(x, 3, 0, 99);
        x.connect(3, 4, 98, 1, 1);
        Answers.dueKindAndPlace(x, 3, 1, 98);
        x.cut(3, 97, 1, 1);
        Answers.dueKindAndPlace(x, 3, 0, 97);
        x.connect(2, 3, 2, 2, 1);
        Answers.dueKindAndPlace(x, 3, 1, 2);
        x.cut(3, 1, 3, 1);
        Answers.dueKindAndPlace(x, 3, 0, 1);
        Answers.dueKindAndPlace(x, 2, 1, 2);
        Answers.dueKindAndPlace(x, 4, 1, 98);
        Answers.dueKindAndPlace(x, 5, 0, 100);
        x.pass(1);
        Answers.dueKindAndPlace(x, 3, 0, 97);
        x.pass(1);
        Answers.dueKindAndPlace(x, 3, 1, 2);
        x.exchange(0, 3, 5);
        x.exchange(1, 3, 6);
        Answers.dueKindAndPlace(x, 5, 1, 2);
        Answers.dueKindAndPlace(x, 3, 0, 100);
        Check.sentence("of several at the same place, a short comes first.");
        for (int order = 0; order < 4; order++) {
            CableTester same = shortAtCut(order, 50);
            Answers.dueKindAndPlace(same, 4, 1, 50);
            Answers.dueKindAndPlace(same, 2, 1, 50);
            CableTester before = shortAtCut(order, 49);
            Answers.dueKindAndPlace(before, 4, 1, 49);
            CableTester behind = shortAtCut(order, 51);
            Answers.dueKindAndPlace(behind, 4, 0, 50);
        }
        CableTester many = new CableTester();
        many.cut(0, 50, 1, 1);
        many.connect(0, 1, 50, 2, 1);
        many.connect(2, 0, 50, 1, 1);
        many.cut(0, 50, 1, 1);
        Answers.dueKindAndPlace(many, 0, 1, 50);
        many.repair(2);
        many.pass(1);
        Answers.dueKindAndPlace(many, 0, 0, 50);
    }

    private static void farEnd() {
        Check.sentence("If there is no such event, it runs up to the far end, which sends an echo like a cut does if"
            + " there is no remote unit; otherwise there is no echo.");
        CableTester x = new CableTester();
        for (int length : new int[] {2, 100, 999}) {
            x.begin(length, 66);
            for (int pin = 0; pin < 8; pin++) {
                Answers.dueKindAndPlace(x, pin, 0, length);
            }
            x.plug(1);
            x.cut(6, length - 1, 2, 1);
            x.connect(0, 5, length - 1, 2, 1);
            Answers.dueKindAndPlace(x, 6, 0, length - 1);
            Answers.dueKindAndPlace(x, 5, 1, length - 1);
            for (int what = 0; what <= 3; what++) {
                Check.due("echo(1, " + what + ")", x.echo(1, what), NONE);
            }
            x.pass(1);
            for (int what = 0; what <= 3; what++) {
                Check.due("echo(6, " + what + ")", x.echo(6, what), NONE);
            }
            x.plug(0);
            Answers.dueKindAndPlace(x, 6, 0, length);
        }
    }

    /** All places of all velocities: the far end of cables of all lengths, and a cut at 1. */
    private static void rounding() {
        Check.sentence("The time of the echo from a place is 200 * place / (3 * velocity) nanoseconds, rounded to the"
            + " nearest integer, halves upwards. The estimate from a time is 3 * velocity * time / 200, rounded in the"
            + " same way.");
        int halves = 0;
        for (int velocity = 50; velocity <= 99; velocity++) {
            for (int place = 1; place <= 999; place++) {
                CableTester x = new CableTester();
                x.begin(Math.max(place, 2), velocity);
                if (place == 1) {
                    x.cut(0, 1, 1, 1);
                }
                String where = " from " + place + " with " + velocity;
                int time = x.echo(0, 1);
                int estimate = x.echo(0, 2);
                Check.dueTrue("the time " + time + where, isRounded(200 * place, 3 * velocity, time));
                Check.dueTrue("the estimate " + estimate + where, isRounded(3 * velocity * time, 200, estimate));
                halves += 400 * place % (3 * velocity) == 0 && 200 * place % (3 * velocity) != 0 ? 1 : 0;
                halves += 3 * velocity * time % 200 == 100 ? 1 : 0;
            }
        }
        Check.dueTrue("there were halves", halves > 100);
    }

    /** The nearest integer is at most a half too great, and less than a half too small. */
    private static boolean isRounded(int dividend, int divisor, int rounded) {
        int twiceTooGreat = 2 * (rounded * divisor - dividend);
        return -divisor < twiceTooGreat && twiceTooGreat <= divisor;
    }

    private static void echo() {
        Check.sentence("what: 0: what sends it (0 a cut or the far end, 1 a short); 1: its time; 2: the estimate from"
            + " its time; 3: the place from which it comes");
        CableTester x = new CableTester();
        x.begin(999, 64);
        x.connect(0, 1, 12, 1, 1);
        x.cut(2, 12, 1, 1);
        // 2400 / 192 is 12.5, 192 * 13 / 200 is 12.48; 199800 / 192 is 1040.6, 192 * 1041 / 200 is 999.36
        int[][] due = {{1, 13, 12, 12}, {1, 13, 12, 12}, {0, 13, 12, 12}, {0, 1041, 999, 999}};
        for (int pin = 0; pin < 4; pin++) {
            for (int what = 0; what <= 3; what++) {
                Check.due("echo(" + pin + ", " + what + ")", x.echo(pin, what), due[pin][what]);
            }
        }
        Check.sentence("echo throws IndexOutOfBoundsException if the pin does not exist");
        for (int pin : NO_PINS) {
            for (int what = 0; what <= 3; what++) {
                echoRefuses(Check.INDEX, pin, what);
            }
        }
        Check.sentence("echo throws IllegalArgumentException if what is not 0 to 3");
        for (int what : new int[] {-1, 4, LEAST, MOST}) {
            echoRefuses(Check.ARGUMENT, 0, what);
            echoRefuses(Check.ARGUMENT, 7, what);
        }
        Check.sentence("NONE if there is no echo.");
        for (int pin = 0; pin < 8; pin++) {
            for (int what = 0; what <= 3; what++) {
                Check.due("echo(" + pin + ", " + what + ") with a unit", plugged().echo(pin, what), NONE);
                Check.dueTrue("an echo without a unit", new CableTester().echo(pin, what) != NONE);
            }
        }
        Check.sentence("If several exceptions apply, the one that is named first in the throws clause is thrown. (15)");
        echoRefuses(Check.INDEX, 8, 4);
        echoRefuses(Check.INDEX, -1, -1);
    }

    private static void echoRefuses(Class<? extends RuntimeException> kind, int pin, int what) {
        String call = "echo(" + pin + ", " + what + ")";
        Check.dueRefusal(States::full, kind, call, t -> t.echo(pin, what));
        Check.dueRefusal(MeasureEdgesTest::plugged, kind, call, t -> t.echo(pin, what));
    }

    private static CableTester plugged() {
        CableTester x = new CableTester();
        x.plug(5);
        return x;
    }

    private static void crosstalk() {
        Check.sentence("The crosstalk of two different pairs p and q is the number (0 to 2) of those k for which the"
            + " wires 2 k and 2 k + 1 are attached, at the near end, to a pin of p and a pin of q.");
        for (int p = 0; p < 4; p++) {
            for (int q = 0; q < 4; q++) {
                if (p != q) {
                    dueCrosstalk(p, q);
                }
            }
        }
        // near pins on the wires 0 2, 1 4, 3 6 and 5 7: a ring of all pairs
        CableTester ring = new CableTester();
        ring.exchange(0, 1, 2);
        ring.exchange(0, 3, 4);
        ring.exchange(0, 5, 6);
        int[][] due = {{0, 1, 1, 0}, {1, 0, 0, 1}, {1, 0, 0, 1}, {0, 1, 1, 0}};
        for (int p = 0; p < 4; p++) {
            for (int q = 0; q < 4; q++) {
                Check.due("crosstalk(" + p + ", " + q + ")", ring.crosstalk(p, q), due[p][q]);
            }
        }
        Check.sentence("Returns the crosstalk; 0 if both are the same.");
        for (int p = 0; p < 4; p++) {
            Check.due("crosstalk of a pair with itself", new CableTester().crosstalk(p, p), 0);
            Check.due("crosstalk of a split pair with itself", ring.crosstalk(p, p), 0);
        }
        Check.sentence("pair: 0 to 3");
        for (int pair = -2; pair <= 5; pair++) {
            int tried = pair;
            boolean exists = pair >= 0 && pair <= 3;
            String answer = exists ? "0" : "java.lang.IndexOutOfBoundsException";
            CableTester x = new CableTester();
            Check.dueText("crosstalk(" + pair + ", 3)", Check.outcome(() -> x.crosstalk(tried, 3)), answer);
            Check.dueText("crosstalk(0, " + pair + ")", Check.outcome(() -> x.crosstalk(0, tried)), answer);
        }
        Check.sentence("crosstalk throws IndexOutOfBoundsException if one of the pairs does not exist");
        for (int pair : new int[] {-1, 4, 7, LEAST, MOST}) {
            crosstalkRefuses(pair, 0);
            crosstalkRefuses(3, pair);
            crosstalkRefuses(pair, pair);
        }
    }

    private static void dueCrosstalk(int p, int q) {
        CableTester x = new CableTester();
        Check.due("not exchanged", x.crosstalk(p, q), 0);
        x.exchange(1, 2 * p, 2 * q + 1);
        Check.due("exchanged at the far end", x.crosstalk(p, q), 0);
        x.exchange(0, 2 * p, 2 * q + 1);
        Check.due("one pin exchanged", x.crosstalk(p, q), 2);
        Check.due("the same the other way round", x.crosstalk(q, p), 2);
        x.exchange(0, 2 * p + 1, 2 * q);
        Check.due("both pins exchanged", x.crosstalk(p, q), 0);
        x.begin(100, 66);
        int third = 0;
        while (third == p || third == q) {
            third++;
        }
        x.exchange(0, 2 * p, 2 * q);
        x.exchange(0, 2 * q + 1, 2 * third);
        Check.due("one pin of q exchanged with a third pair", x.crosstalk(p, q), 1);
        Check.due("the same the other way round", x.crosstalk(q, p), 1);
    }

    private static void crosstalkRefuses(int pair, int other) {
        String call = "crosstalk(" + pair + ", " + other + ")";
        Check.dueRefusal(States::full, Check.INDEX, call, t -> t.crosstalk(pair, other));
    }

    private static void splitPairs() {
        Check.sentence("The pins 2 p and 2 p + 1 of an end make the pair p, for p from 0 to 3.");
        for (int p = 0; p < 4; p++) {
            CableTester pair = new CableTester();
            attach(pair, 2 * p, 4);
            attach(pair, 2 * p + 1, 5);
            Check.due("the wires 4 and 5 make a pair at " + p, pair.count(8), 0);
            int next = (p + 1) % 4;
            attach(pair, 2 * p + 1, 4);
            attach(pair, 2 * next, 5);
            int both = 1 << p | 1 << next;
            Check.due("the wires 4 and 5 are in two pairs, " + p, pair.count(8) & both, both);
            Check.dueTrue("they talk, " + p, pair.crosstalk(p, next) > 0);
        }
        Check.sentence("A pair is split if its two near pins are attached to wires that are not twisted together.");
        CableTester x = new CableTester();
        Check.due("none", x.count(8), 0);
        x.exchange(1, 1, 2);
        Check.due("none by the far end", x.count(8), 0);
        x.exchange(0, 6, 7);
        Check.due("none by its own pins", x.count(8), 0);
        x.exchange(0, 0, 6);
        x.exchange(0, 1, 7);
        Check.due("none by whole pairs", x.count(8), 0);
        x.exchange(0, 1, 7);
        Check.due("the first and the last", x.count(8), 0b1001);
        x.exchange(0, 3, 4);
        Check.due("all", x.count(8), 0b1111);
    }

    /** The wire is attached to the near pin, and this pin's wire to the pin that had it. */
    private static void attach(CableTester x, int pin, int wire) {
        for (int other = 0; other < 8; other++) {
            if (other != pin && x.wire(0, other) == wire) {
                x.exchange(0, pin, other);
                return;
            }
        }
    }

    private static void identify() {
        Check.sentence("this is possible if there is a pair that is not split, and both of whose near pins are good.");
        for (int pair = 0; pair < 4; pair++) {
            for (int bad = 0; bad < 8; bad++) {
                dueIdentified(pair, bad);
            }
            dueNoneBySplitPairs(pair, (pair + 1) % 4);
        }
        Check.sentence("Returns the number of the remote unit; NONE if there is none, or it is not possible.");
        CableTester x = new CableTester();
        Check.due("no unit", x.identify(), NONE);
        x.plug(1);
        Check.due("the least", x.identify(), 1);
        x.plug(99);
        Check.due("the most", x.identify(), 99);
        x.plug(0);
        Check.due("taken away", x.identify(), NONE);
        // good pins of two pairs, one of each: no pair is good as a whole
        x.plug(7);
        for (int pair = 0; pair < 4; pair++) {
            x.cut(2 * pair + pair % 2, 10, 1, 1);
        }
        Check.due("half of each pair", x.identify(), NONE);
    }

    /** Only this pair is left, and then it fails at one of its pins as well. */
    private static void dueIdentified(int pair, int bad) {
        CableTester x = onlyPair(pair);
        Check.due("by the pair " + pair, x.identify(), 50 + pair);
        x.cut(bad, 90, 1, 1);
        Check.due("with the pin " + bad + " open", x.identify(), bad / 2 == pair ? NONE : 50 + pair);
    }

    private static CableTester onlyPair(int pair) {
        return onlyPairs(pair, pair);
    }

    /** All other pairs are shorted. */
    private static CableTester onlyPairs(int one, int two) {
        CableTester x = new CableTester();
        x.plug(50 + one);
        for (int other = 0; other < 4; other++) {
            if (other != one && other != two) {
                x.connect(2 * other, 2 * other + 1, 10, 1, 1);
            }
        }
        return x;
    }

    /** Wires that are exchanged alike at both ends leave their pins good. */
    private static void dueNoneBySplitPairs(int one, int two) {
        CableTester x = onlyPairs(one, two);
        Check.due("two pairs", x.identify(), 50 + one);
        x.exchange(0, 2 * one, 2 * two);
        x.exchange(1, 2 * one, 2 * two);
        Check.due("wrong pins", x.count(7), 4);
        Check.due("good pins of a split pair", x.status(2 * one) + x.status(2 * one + 1), 0);
        Check.due("split pairs", x.count(8), 1 << one | 1 << two);
        Check.due("identify", x.identify(), NONE);
    }
}
