/** Promises 23 to 25 and 27: what there is, and its hash. */
public final class StateTest {
    /** Both were worked out from the document, without the class. */
    private static final long NEW_DIGEST = 4264773773238997786L;
    private static final long CUT_DIGEST = 3065258874298925390L;

    private StateTest() {
    }

    public static void main(String[] args) {
        count();
        fault();
        wire();
        knownDigests();
        digestFromAnswers();
        Check.finish();
    }

    private static void count() {
        CableTester x = new CableTester();
        x.begin(250, 71);
        x.plug(33);
        x.cut(0, 10, 3, 2);
        x.cut(1, 10, 4, 1);
        x.connect(4, 5, 10, 1, 1);
        x.exchange(0, 2, 4);
        Answers.dueCounts(x, 250, 71, 33, 0, 3, 3, 9, 5, 0b110);
        x.pass(2);
        Answers.dueCounts(x, 250, 71, 33, 2, 3, 1, 7, 3, 0b110);
        x.repair(2);
        Answers.dueCounts(x, 250, 71, 33, 2, 2, 0, 8, 2, 0b110);
        x.exchange(0, 0, 7);
        Answers.dueCounts(x, 250, 71, 33, 2, 2, 0, 8, 4, 0b1111);
        // eight cuts leave every pin alone
        x.begin(100, 66);
        for (int k = 0; k < 8; k++) {
            x.cut(k, 50, 1, 1);
        }
        Answers.dueCounts(x, 100, 66, 0, 0, 8, 8, 16, 8, 0);
        // all wires in one net
        x.begin(100, 66);
        for (int k = 1; k < 8; k++) {
            x.connect(0, k, 50, 1, 1);
        }
        Answers.dueCounts(x, 100, 66, 0, 0, 7, 7, 1, 8, 0);
    }

    private static void fault() {
        CableTester x = new CableTester();
        x.cut(7, 98, 6, 2);
        x.connect(5, 3, 17, 4, 3);
        Answers.dueFault(x, 0, 0, 7, -1, 98, 6, 2, 1);
        Answers.dueFault(x, 1, 1, 5, 3, 17, 4, 3, 1);
        x.pass(2);
        Answers.dueFault(x, 0, 0, 7, -1, 98, 6, 2, 0);
        Answers.dueFault(x, 1, 1, 5, 3, 17, 4, 3, 1);
        x.pass(1);
        Answers.dueFault(x, 1, 1, 5, 3, 17, 4, 3, 0);
        x.pass(3);
        Answers.dueFault(x, 0, 0, 7, -1, 98, 6, 2, 1);
    }

    private static void wire() {
        CableTester x = new CableTester();
        x.exchange(0, 0, 5);
        x.exchange(1, 7, 5);
        Check.due("wire(0, 0)", x.wire(0, 0), 5);
        Check.due("wire(0, 5)", x.wire(0, 5), 0);
        Check.due("wire(0, 7)", x.wire(0, 7), 7);
        Check.due("wire(1, 0)", x.wire(1, 0), 0);
        Check.due("wire(1, 5)", x.wire(1, 5), 7);
        Check.due("wire(1, 7)", x.wire(1, 7), 5);
    }

    private static void knownDigests() {
        CableTester x = new CableTester();
        Check.due("digest of a new object", x.digest(), NEW_DIGEST);
        x.begin(50, 80);
        x.cut(2, 10, 3, 1);
        x.plug(7);
        x.pass(3);
        x.append('n');
        Check.due("digest of a cut cable", x.digest(), CUT_DIGEST);
        Check.due("digest again", x.digest(), CUT_DIGEST);
    }

    private static void digestFromAnswers() {
        CableTester x = new CableTester();
        Check.type(x, "s13@20/3:2;c5@60/7:4;n12;f07;s62@21/2:1;c1@20/5:1");
        x.load();
        x.plug(12);
        Check.type(x, "c0@1~");
        for (int i = 0; i < 30; i++) {
            x.pass(1 + i % 5);
            Check.due("digest from answers", x.digest(), hashOfAnswers(x, "c0@1~"));
        }
    }

    static long hashOfAnswers(CableTester x, String buffer) {
        long hash = 2011;
        for (int what = 0; what <= 8; what++) {
            hash = 31 * hash + x.count(what);
        }
        for (int i = 0; i < x.count(4); i++) {
            for (int what = 0; what <= 6; what++) {
                hash = 31 * hash + x.fault(i, what);
            }
        }
        for (int pin = 0; pin < 8; pin++) {
            hash = hashOfPin(x, hash, pin);
        }
        for (int p = 0; p < 4; p++) {
            for (int q = p + 1; q < 4; q++) {
                hash = 31 * hash + x.crosstalk(p, q);
            }
        }
        hash = 31 * hash + x.identify();
        hash = 31 * hash + x.suspect();
        for (int what = 0; what <= 4; what++) {
            hash = 31 * hash + x.explain(what);
        }
        hash = 31 * hash + buffer.length();
        for (int i = 0; i < buffer.length(); i++) {
            hash = 31 * hash + buffer.charAt(i);
        }
        return hash;
    }

    private static long hashOfPin(CableTester x, long start, int pin) {
        long hash = start;
        hash = 31 * hash + x.wire(0, pin);
        hash = 31 * hash + x.wire(1, pin);
        hash = 31 * hash + x.joined(0, pin, 0);
        hash = 31 * hash + x.joined(0, pin, 1);
        hash = 31 * hash + x.joined(1, pin, 1);
        hash = 31 * hash + x.status(pin);
        for (int what = 0; what <= 3; what++) {
            hash = 31 * hash + x.echo(pin, what);
        }
        for (int what = 0; what <= 4; what++) {
            hash = 31 * hash + x.records(pin, what);
        }
        return 31 * hash + x.explained(pin);
    }
}
