/** Promises 21 and 22: the best explanation. */
public final class ExplainTest {
    private ExplainTest() {
    }

    public static void main(String[] args) {
        cuts();
        shorts();
        exchanges();
        splits();
        explainedAlone();
        freePins();
        Check.finish();
    }

    private static void cuts() {
        CableTester x = new CableTester();
        x.cut(3, 50, 1, 1);
        x.cut(3, 60, 1, 1);
        Answers.dueNumbers(x, 1, 0, 0, 0);
        x.cut(6, 1, 2, 1);
        Answers.dueNumbers(x, 2, 0, 0, 0);
        Answers.duePermutation(x, 0, 1, 2, 3, 4, 5, 6, 7);
        x.pass(1);
        Answers.dueNumbers(x, 1, 0, 0, 0);
        for (int wire = 0; wire < 7; wire++) {
            x.cut(wire, 10, 1, 1);
        }
        Answers.dueNumbers(x, 7, 0, 0, 0);
    }

    private static void shorts() {
        CableTester x = new CableTester();
        x.connect(1, 2, 30, 1, 1);
        x.connect(1, 2, 31, 1, 1);
        Answers.dueNumbers(x, 0, 1, 0, 0);
        x.connect(2, 7, 60, 1, 1);
        Answers.dueNumbers(x, 0, 2, 0, 0);
        Answers.duePermutation(x, 0, 1, 2, 3, 4, 5, 6, 7);
        // three near pins and one far pin in a net
        x.cut(2, 80, 1, 1);
        x.cut(7, 80, 1, 1);
        Answers.dueNumbers(x, 2, 2, 0, 0);
        Answers.duePermutation(x, 0, 1, 2, 3, 4, 5, 6, 7);
        // one near pin and two far pins
        x.begin(100, 66);
        x.connect(4, 5, 50, 1, 1);
        x.cut(4, 40, 1, 1);
        Answers.dueNumbers(x, 1, 1, 0, 0);
        Answers.duePermutation(x, 0, 1, 2, 3, 4, 5, 6, 7);
        // two near pins, or two far pins, alone
        x.cut(5, 50, 1, 1);
        x.cut(4, 50, 1, 1);
        x.connect(4, 5, 70, 1, 1);
        x.connect(4, 5, 30, 1, 1);
        Answers.dueNumbers(x, 2, 2, 0, 0);
    }

    private static void exchanges() {
        CableTester x = new CableTester();
        x.exchange(1, 0, 7);
        Answers.dueNumbers(x, 0, 0, 1, 0);
        Answers.duePermutation(x, 7, 1, 2, 3, 4, 5, 6, 0);
        x.exchange(1, 7, 3);
        // far pins now on the wires 7 1 2 0 4 5 6 3
        Answers.dueNumbers(x, 0, 0, 2, 0);
        Answers.duePermutation(x, 3, 1, 2, 7, 4, 5, 6, 0);
        x.exchange(0, 4, 5);
        Answers.dueNumbers(x, 0, 0, 3, 0);
        Answers.duePermutation(x, 3, 1, 2, 7, 5, 4, 6, 0);
    }

    private static void splits() {
        CableTester x = new CableTester();
        x.exchange(0, 1, 2);
        x.exchange(1, 1, 2);
        Answers.dueNumbers(x, 0, 0, 0, 1);
        x.exchange(0, 5, 6);
        x.exchange(1, 5, 6);
        Answers.dueNumbers(x, 0, 0, 0, 2);
        x.exchange(0, 3, 4);
        x.exchange(1, 3, 4);
        Answers.dueNumbers(x, 0, 0, 0, 3);
        x.begin(100, 66);
        x.exchange(0, 1, 2);
        x.exchange(0, 3, 4);
        x.exchange(1, 1, 2);
        x.exchange(1, 3, 4);
        Answers.dueNumbers(x, 0, 0, 0, 2);
        x.exchange(1, 3, 4);
        Answers.dueNumbers(x, 0, 0, 1, 2);
    }

    /** Neither of the two calls relies on what the other one found. */
    private static void explainedAlone() {
        CableTester x = new CableTester();
        x.exchange(1, 0, 1);
        Check.due("explained(0)", x.explained(0), 1);
        x.exchange(1, 0, 1);
        Check.due("explained(0)", x.explained(0), 0);
        x.exchange(0, 2, 4);
        Check.due("exchanges", x.explain(2), 1);
        x.cut(0, 5, 1, 1);
        Check.due("cuts", x.explain(0), 1);
        Check.due("explained(4)", x.explained(4), 2);
    }

    private static void freePins() {
        CableTester x = new CableTester();
        x.exchange(1, 0, 1);
        x.cut(0, 5, 1, 1);
        x.cut(1, 5, 1, 1);
        Answers.dueNumbers(x, 2, 0, 0, 0);
        Answers.duePermutation(x, 0, 1, 2, 3, 4, 5, 6, 7);
        // the near pins 2 and 3 share the far pin 5; the near pin 5 and the far pins 2 and 3 are alone
        x.begin(100, 66);
        x.exchange(1, 2, 5);
        x.connect(2, 3, 10, 1, 1);
        x.cut(3, 20, 1, 1);
        x.cut(5, 20, 1, 1);
        Answers.dueNumbers(x, 2, 1, 1, 0);
        Answers.duePermutation(x, 0, 1, 2, 5, 4, 3, 6, 7);
        // the same with the far pin 0
        x.begin(100, 66);
        x.exchange(1, 2, 0);
        x.connect(2, 3, 10, 1, 1);
        x.cut(3, 20, 1, 1);
        x.cut(0, 20, 1, 1);
        Answers.dueNumbers(x, 2, 1, 1, 0);
        Answers.duePermutation(x, 2, 1, 0, 3, 4, 5, 6, 7);
        // the near pins 0 and 1 share the far pin 1; the near pin 2 is joined to the far pin 0
        x.begin(100, 66);
        x.exchange(1, 0, 2);
        x.connect(0, 1, 5, 1, 1);
        x.cut(0, 6, 1, 1);
        Answers.dueNumbers(x, 1, 1, 1, 0);
        Answers.duePermutation(x, 2, 1, 0, 3, 4, 5, 6, 7);
    }
}
