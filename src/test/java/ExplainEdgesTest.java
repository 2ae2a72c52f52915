/** The edges that the document names for nets and explanations, and in the promises 21 and 22. */
public final class ExplainEdgesTest {
    private static final int LEAST = Integer.MIN_VALUE;
    private static final int MOST = Integer.MAX_VALUE;

    private ExplainEdgesTest() {
    }

    public static void main(String[] args) {
        nets();
        cuts();
        shorts();
        exchanges();
        splits();
        fewestCuts();
        fewestCutsInUnevenNets();
        fewestExchanges();
        smallestPermutation();
        presentTick();
        explainRefuses();
        explainedRefuses();
        Check.finish();
    }

    private static void nets() {
        Check.sentence("a pin that is joined to no other one is a net of its own.");
        CableTester x = new CableTester();
        Check.due("no faults", x.count(6), 8);
        for (int wire = 0; wire < 8; wire++) {
            x.cut(wire, 50, 1, 1);
            Check.due("one net more by each cut", x.count(6), 9 + wire);
        }
        x.cut(0, 60, 1, 1);
        Check.due("a piece without pins is no net", x.count(6), 16);
        x.connect(0, 1, 55, 1, 1);
        Check.due("a short of a piece without pins", x.count(6), 16);
        Check.sentence("A set of pins (of both ends) that are joined with one another, as large as possible, is a net");
        CableTester y = new CableTester();
        for (int wire = 0; wire < 7; wire++) {
            y.connect(wire, wire + 1, 50 - wire, 1, 1);
            Check.due("one net less by each short", y.count(6), 7 - wire);
        }
        y.connect(0, 7, 50, 1, 1);
        Check.due("a short within a net", y.count(6), 1);
    }

    private static void cuts() {
        Check.sentence("a cut for each near pin that is given a far pin of another net;");
        CableTester x = new CableTester();
        Answers.dueNumbers(x, 0, 0, 0, 0);
        for (int wire = 0; wire < 8; wire++) {
            x.cut(wire, 50, 1, 1);
            Answers.dueNumbers(x, 1 + wire, 0, 0, 0);
        }
        x.cut(7, 51, 1, 1);
        Answers.dueNumbers(x, 8, 0, 0, 0);
        // two near pins share a far pin: one of them is given another one
        CableTester y = new CableTester();
        y.connect(0, 1, 50, 1, 1);
        y.cut(0, 60, 1, 1);
        Answers.dueNumbers(y, 1, 1, 0, 0);
    }

    private static void shorts() {
        Check.sentence("for each net with a near pins and b far pins, as many shorts as the greater one of a and b"
            + " says, minus 1;");
        // so many wires from 0 on are shorted, and then cut on the near side, or on the far side, or both
        for (int wires = 2; wires <= 5; wires++) {
            for (int cut = 0; cut <= wires; cut++) {
                CableTester far = star(wires);
                cutSome(far, cut, 90);
                Answers.dueNumbers(far, cut, wires - 1, 0, 0);
                CableTester near = star(wires);
                cutSome(near, cut, 10);
                Answers.dueNumbers(near, cut, wires - 1, 0, 0);
            }
        }
        CableTester all = star(8);
        Answers.dueNumbers(all, 0, 7, 0, 0);
        cutSome(all, 3, 90);
        Answers.dueNumbers(all, 3, 7, 0, 0);
        // two near pins without a far pin, and two far pins without a near pin
        CableTester apart = new CableTester();
        apart.connect(6, 7, 40, 1, 1);
        apart.cut(6, 50, 1, 1);
        apart.cut(7, 50, 1, 1);
        Answers.dueNumbers(apart, 2, 1, 0, 0);
        apart.connect(6, 7, 60, 1, 1);
        Answers.dueNumbers(apart, 2, 2, 0, 0);
        // each net for itself
        CableTester four = new CableTester();
        for (int wire = 0; wire < 8; wire += 2) {
            four.connect(wire, wire + 1, 50, 1, 1);
            Answers.dueNumbers(four, 0, wire / 2 + 1, 0, 0);
        }
        // one near pin with two far pins, and two near pins with one far pin
        CableTester lopsided = new CableTester();
        lopsided.cut(0, 40, 1, 1);
        lopsided.connect(0, 1, 50, 1, 1);
        lopsided.connect(6, 7, 50, 1, 1);
        lopsided.cut(7, 60, 1, 1);
        Answers.dueNumbers(lopsided, 2, 2, 0, 0);
    }

    /** The wires from 0 on are shorted at 50. */
    private static CableTester star(int wires) {
        CableTester x = new CableTester();
        for (int wire = 1; wire < wires; wire++) {
            x.connect(0, wire, 50, 1, 1);
        }
        return x;
    }

    private static void cutSome(CableTester x, int wires, int place) {
        for (int wire = 0; wire < wires; wire++) {
            x.cut(wire, place, 1, 1);
        }
    }

    private static void exchanges() {
        Check.sentence("as many exchanges as there are pins, minus the number of cycles of the permutation;");
        CableTester x = new CableTester();
        Answers.dueNumbers(x, 0, 0, 0, 0);
        for (int pin = 0; pin < 7; pin++) {
            x.exchange(1, pin, pin + 1);
            Answers.dueNumbers(x, 0, 0, pin + 1, 0);
        }
        Answers.duePermutation(x, 7, 0, 1, 2, 3, 4, 5, 6);
        CableTester pairs = new CableTester();
        for (int pin = 0; pin < 4; pin++) {
            pairs.exchange(1, pin, 7 - pin);
            Answers.dueNumbers(pairs, 0, 0, pin + 1, 0);
        }
        Answers.duePermutation(pairs, 7, 6, 5, 4, 3, 2, 1, 0);
        CableTester turned = new CableTester();
        turned.exchange(1, 6, 7);
        turned.exchange(1, 5, 6);
        Answers.dueNumbers(turned, 0, 0, 2, 0);
        // far pins on the wires .. 7 5 6
        Answers.duePermutation(turned, 0, 1, 2, 3, 4, 6, 7, 5);
    }

    private static void splits() {
        Check.sentence("for each set of linked pairs, as large as possible (directly or over others), as many splits as"
            + " it has pairs, minus 1.");
        dueSplits(0, "");
        dueSplits(0, "01");
        dueSplits(0, "02 13");
        dueSplits(1, "12");
        dueSplits(1, "07");
        dueSplits(2, "12 56");
        dueSplits(2, "07 34");
        // two sets of two pairs, each linked twice
        dueSplits(2, "12 56 34 07");
        // three pairs, each linked with both others
        dueSplits(2, "12 34");
        dueSplits(2, "34 56");
        // all pairs in a ring, in which 0 and 3 are linked over others
        dueSplits(3, "12 34 56");
        Check.sentence("two of them being linked if their crosstalk is not 0;");
        CableTester x = new CableTester();
        x.exchange(0, 1, 2);
        Check.due("a crosstalk of 2", x.crosstalk(0, 1), 2);
        Check.due("links once", x.explain(3), 1);
        x.exchange(0, 3, 4);
        Check.due("a crosstalk of 1", x.crosstalk(0, 1), 1);
        Check.due("links all the same", x.explain(3), 2);
        x.begin(100, 66);
        x.exchange(1, 1, 2);
        Check.due("nothing is linked by the far end", x.explain(3), 0);
    }

    /** The near pins are exchanged as written, and the far pins in the same way, so that there is nothing else. */
    private static void dueSplits(int due, String exchanged) {
        CableTester x = new CableTester();
        for (String pins : exchanged.split(" ")) {
            if (!pins.isEmpty()) {
                x.exchange(0, pins.charAt(0) - '0', pins.charAt(1) - '0');
                x.exchange(1, pins.charAt(0) - '0', pins.charAt(1) - '0');
            }
        }
        Answers.dueNumbers(x, 0, 0, 0, due);
    }

    private static void fewestCuts() {
        Check.sentence("The best explanation is the one with the fewest cuts;");
        // 0 is joined to 1; 1 and the far 0 are alone: an exchange and a cut, not two cuts
        CableTester x = new CableTester();
        x.exchange(1, 0, 1);
        x.cut(1, 50, 1, 1);
        Answers.dueNumbers(x, 1, 0, 1, 0);
        Answers.duePermutation(x, 1, 0, 2, 3, 4, 5, 6, 7);
        // a ring of all pins, one of them cut: seven exchanges and one cut
        CableTester ring = new CableTester();
        for (int pin = 0; pin < 7; pin++) {
            ring.exchange(1, pin, pin + 1);
        }
        ring.cut(3, 50, 1, 1);
        Answers.dueNumbers(ring, 1, 0, 7, 0);
        Answers.duePermutation(ring, 7, 0, 1, 2, 3, 4, 5, 6);
        // seven of them cut: the one that is left keeps its far pin
        for (int wire = 0; wire < 7; wire++) {
            if (wire != 3) {
                ring.cut(wire, 50, 1, 1);
            }
        }
        Answers.dueNumbers(ring, 7, 0, 1, 0);
        Answers.duePermutation(ring, 0, 1, 2, 3, 4, 5, 7, 6);
        ring.cut(7, 50, 1, 1);
        Answers.dueNumbers(ring, 8, 0, 0, 0);
        Answers.duePermutation(ring, 0, 1, 2, 3, 4, 5, 6, 7);
    }

    private static void fewestCutsInUnevenNets() {
        Check.sentence("The best explanation is the one with the fewest cuts; (nets with more pins at one end)");
        // near 0 is joined to the far 1 and 2, all others of 0 to 2 are alone: 0 1 2 would be three cuts
        CableTester far = new CableTester();
        far.exchange(1, 0, 1);
        far.cut(1, 20, 1, 1);
        far.cut(2, 20, 1, 1);
        far.connect(0, 2, 30, 1, 1);
        Answers.dueNumbers(far, 2, 1, 1, 0);
        Answers.duePermutation(far, 1, 0, 2, 3, 4, 5, 6, 7);
        // the far 0 is joined to near 1 and 2, all others of 0 to 2 are alone
        CableTester near = new CableTester();
        near.exchange(1, 0, 1);
        near.cut(0, 20, 1, 1);
        near.cut(2, 20, 1, 1);
        near.connect(1, 2, 10, 1, 1);
        Answers.dueNumbers(near, 2, 1, 1, 0);
        Answers.duePermutation(near, 1, 0, 2, 3, 4, 5, 6, 7);
        // both: near 0 has the far 2 and 3, near 2 and 3 have the far 0
        CableTester both = new CableTester();
        both.exchange(1, 0, 2);
        both.cut(3, 20, 1, 1);
        both.connect(0, 3, 30, 1, 1);
        both.connect(2, 3, 10, 1, 1);
        Answers.dueNumbers(both, 1, 2, 1, 0);
        Answers.duePermutation(both, 2, 1, 0, 3, 4, 5, 6, 7);
    }

    private static void fewestExchanges() {
        Check.sentence("of several the one with the fewest exchanges;");
        // 0 goes to 2, 1 and 2 share 0 and 1: 2 0 1 would be smaller, but needs two exchanges
        CableTester x = new CableTester();
        x.exchange(1, 0, 1);
        x.exchange(1, 1, 2);
        x.connect(1, 2, 5, 1, 1);
        Answers.dueNumbers(x, 0, 1, 1, 0);
        Answers.duePermutation(x, 2, 1, 0, 3, 4, 5, 6, 7);
        // near 6 and 7 share the far 7; the far 6 is alone: 6 is cut off, not 7
        CableTester y = new CableTester();
        y.connect(6, 7, 50, 1, 1);
        y.cut(6, 60, 1, 1);
        Answers.dueNumbers(y, 1, 1, 0, 0);
        Answers.duePermutation(y, 0, 1, 2, 3, 4, 5, 6, 7);
        // near 4 and 5 are cut off, and so are the far 3 and 4, in a ring of all pins
        CableTester ring = new CableTester();
        for (int pin = 0; pin < 7; pin++) {
            ring.exchange(1, pin, pin + 1);
        }
        ring.cut(4, 5, 1, 1);
        ring.cut(5, 5, 1, 1);
        Answers.dueNumbers(ring, 2, 0, 6, 0);
        Answers.duePermutation(ring, 7, 0, 1, 2, 4, 3, 5, 6);
    }

    private static void smallestPermutation() {
        Check.sentence("of several the lexicographically smallest permutation.");
        // 0 and 1 share the far 2 and 3, 2 and 3 share the far 0 and 1: also 3 2 1 0 needs two exchanges
        CableTester x = new CableTester();
        x.exchange(1, 0, 2);
        x.exchange(1, 1, 3);
        x.connect(0, 1, 5, 1, 1);
        x.connect(2, 3, 5, 1, 1);
        Answers.dueNumbers(x, 0, 2, 2, 0);
        Answers.duePermutation(x, 2, 3, 0, 1, 4, 5, 6, 7);
        // the same at the last pins
        CableTester last = new CableTester();
        last.exchange(1, 4, 6);
        last.exchange(1, 5, 7);
        last.connect(4, 5, 5, 1, 1);
        last.connect(6, 7, 5, 1, 1);
        Answers.dueNumbers(last, 0, 2, 2, 0);
        Answers.duePermutation(last, 0, 1, 2, 3, 6, 7, 4, 5);
        // near 0 and 1 share the far 5; near 5 and the far 0 and 1 are alone: 5 1 .. 0 needs one exchange, too
        CableTester free = new CableTester();
        free.exchange(1, 0, 5);
        free.connect(0, 1, 10, 1, 1);
        free.cut(1, 20, 1, 1);
        free.cut(5, 20, 1, 1);
        Answers.dueNumbers(free, 2, 1, 1, 0);
        Answers.duePermutation(free, 0, 5, 2, 3, 4, 1, 6, 7);
        // near 0 and 1 share the far 2, near 2 has the far 0 and 1: 2 1 0 needs a cut and an exchange, too
        CableTester shared = new CableTester();
        shared.exchange(1, 0, 2);
        shared.connect(0, 1, 10, 1, 1);
        shared.cut(1, 20, 1, 1);
        shared.connect(1, 2, 30, 1, 1);
        Answers.dueNumbers(shared, 1, 2, 1, 0);
        Answers.duePermutation(shared, 0, 2, 1, 3, 4, 5, 6, 7);
    }

    private static void presentTick() {
        Check.sentence("Returns a number of the best explanation of what is measured now.");
        CableTester x = new CableTester();
        x.cut(0, 5, 2, 1);
        x.connect(6, 7, 5, 3, 1);
        Answers.dueNumbers(x, 1, 1, 0, 0);
        x.pass(1);
        Answers.dueNumbers(x, 0, 0, 0, 0);
        x.pass(1);
        Answers.dueNumbers(x, 1, 0, 0, 0);
        x.pass(1);
        Answers.dueNumbers(x, 0, 1, 0, 0);
    }

    private static void explainRefuses() {
        Check.sentence("explain throws IllegalArgumentException if what is not 0 to 4");
        for (int what : new int[] {-1, 5, LEAST, MOST}) {
            Check.dueRefusal(States::full, Check.ARGUMENT, "explain(" + what + ")", t -> t.explain(what));
            Check.dueRefusal(CableTester::new, Check.ARGUMENT, "explain(" + what + ")", t -> t.explain(what));
        }
    }

    private static void explainedRefuses() {
        Check.sentence("explained throws IndexOutOfBoundsException if the pin does not exist");
        for (int pin : new int[] {-1, 8, LEAST, MOST}) {
            Check.dueRefusal(States::full, Check.INDEX, "explained(" + pin + ")", t -> t.explained(pin));
            Check.dueRefusal(CableTester::new, Check.INDEX, "explained(" + pin + ")", t -> t.explained(pin));
        }
    }
}
