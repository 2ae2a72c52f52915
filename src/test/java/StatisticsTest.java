/** Promises 18 to 20: statistics and the next change; and 26, the share of wrong records. */
public final class StatisticsTest {
    private StatisticsTest() {
    }

    public static void main(String[] args) {
        fewRecords();
        someRecords();
        mostRecords();
        leastPeriod();
        suspect();
        nextChange();
        wrongShare();
        Check.finish();
    }

    private static void fewRecords() {
        CableTester x = new CableTester();
        x.cut(0, 5, 4, 2);
        Answers.dueRecords(x, 0, 0, 0, 0, 0, -1);
        x.pass(1);
        Answers.dueRecords(x, 0, 1, 1, 1, 0, -1);
        Answers.dueRecords(x, 1, 1, 0, 0, 0, -1);
        x.pass(1);
        Answers.dueRecords(x, 0, 2, 1, 1, 1, -1);
        Answers.dueRecords(x, 1, 2, 0, 0, 0, 1);
        x.begin(100, 66);
        Answers.dueRecords(x, 0, 0, 0, 0, 0, -1);
        x.cut(0, 5, 1, 1);
        x.pass(2);
        Answers.dueRecords(x, 0, 2, 2, 2, 0, 1);
    }

    private static void someRecords() {
        CableTester x = new CableTester();
        x.cut(2, 50, 4, 1);
        x.pass(7);
        // 0001000
        Answers.dueRecords(x, 2, 7, 1, 1, 2, -1);
        x.pass(3);
        // 0001000100
        Answers.dueRecords(x, 2, 10, 2, 1, 4, 4);
        x.repair(0);
        Answers.dueRecords(x, 2, 10, 2, 1, 4, 4);
        x.connect(2, 3, 50, 1, 1);
        x.pass(3);
        // 0001000100111
        Answers.dueRecords(x, 2, 13, 5, 3, 5, -1);
        Answers.dueRecords(x, 3, 13, 3, 3, 1, -1);
    }

    private static void mostRecords() {
        CableTester x = new CableTester();
        x.cut(1, 5, 32, 16);
        x.pass(100);
        // the ticks 37 to 100: 11 wrong, 16 not, 16 wrong, 16 not, 5 wrong
        Answers.dueRecords(x, 1, 64, 32, 16, 4, 32);
        Answers.dueRecords(x, 0, 64, 0, 0, 0, 1);
        x.pass(1);
        Answers.dueRecords(x, 1, 64, 32, 16, 4, 32);
        x.cut(1, 5, 1, 1);
        x.pass(63);
        Answers.dueRecords(x, 1, 64, 64, 64, 0, 1);
        x.repair(1);
        x.repair(0);
        x.pass(1);
        Answers.dueRecords(x, 1, 64, 63, 63, 1, -1);
        x.pass(62);
        Answers.dueRecords(x, 1, 64, 1, 1, 1, -1);
        x.pass(1);
        Answers.dueRecords(x, 1, 64, 0, 0, 0, 1);
        x.begin(100, 66);
        x.pass(63);
        Answers.dueRecords(x, 1, 63, 0, 0, 0, 1);
        x.pass(1);
        Answers.dueRecords(x, 1, 64, 0, 0, 0, 1);
    }

    private static void leastPeriod() {
        for (int period = 2; period <= 32; period++) {
            CableTester x = new CableTester();
            x.cut(6, 5, period, period - 1);
            x.pass(2 * period - 1);
            Check.due("too few records for " + period, x.records(6, 4), CableTester.NONE);
            x.pass(1);
            Check.due("just enough records for " + period, x.records(6, 4), period);
            x.pass(100);
            Check.due("many records for " + period, x.records(6, 4), period);
        }
        CableTester x = new CableTester();
        x.cut(6, 5, 4, 1);
        x.cut(6, 5, 6, 1);
        x.pass(23);
        Check.due("one less than twice 12", x.records(6, 4), CableTester.NONE);
        x.pass(1);
        Check.due("twice 12", x.records(6, 4), 12);
    }

    private static void suspect() {
        CableTester x = new CableTester();
        Check.due("suspect of none", x.suspect(), CableTester.NONE);
        x.pass(5);
        Check.due("suspect of good ones", x.suspect(), CableTester.NONE);
        x.connect(6, 3, 10, 1, 1);
        Check.due("nothing is recorded yet", x.suspect(), CableTester.NONE);
        x.pass(1);
        Check.due("the lowest of several", x.suspect(), 3);
        x.cut(6, 5, 1, 1);
        x.pass(1);
        Check.due("both were wrong twice", x.suspect(), 3);
        x.repair(0);
        x.pass(1);
        Check.due("the one that was wrong most often", x.suspect(), 6);
        x.repair(0);
        x.pass(63);
        Check.due("one record is left", x.suspect(), 6);
        x.pass(1);
        Check.due("none is left", x.suspect(), CableTester.NONE);
        for (int pin = 7; pin >= 0; pin--) {
            x.begin(100, 66);
            x.cut(pin, 10, 1, 1);
            x.pass(1);
            Check.due("suspect of one record", x.suspect(), pin);
        }
    }

    private static void nextChange() {
        CableTester x = new CableTester();
        Check.due("nothing changes", x.nextChange(), CableTester.NONE);
        x.cut(3, 50, 8, 3);
        long before = x.digest();
        Check.due("the cut goes", x.nextChange(), 3);
        Check.due("nextChange changes nothing", x.digest(), before);
        x.pass(3);
        Check.due("the cut comes", x.nextChange(), 5);
        x.pass(4);
        Check.due("the cut comes", x.nextChange(), 1);
        x.cut(3, 20, 1, 1);
        Check.due("wrong all the same", x.nextChange(), CableTester.NONE);
        x.exchange(1, 0, 1);
        x.cut(0, 20, 2, 1);
        Check.due("wrong in another way", x.nextChange(), CableTester.NONE);
        // as many wrong pins, but other ones
        x.begin(100, 66);
        x.cut(0, 5, 2, 1);
        x.cut(1, 5, 3, 1);
        x.pass(2);
        Check.due("another pin", x.nextChange(), 1);
    }

    private static void wrongShare() {
        CableTester x = new CableTester();
        Check.due("wrongShare of none", x.wrongShare(), 0.0);
        x.pass(1);
        Check.due("wrongShare of good ones", x.wrongShare(), 0.0);
        x.connect(1, 2, 5, 1, 1);
        x.pass(2);
        Check.due("4 of 24", x.wrongShare(), 4.0 / 24);
        x.pass(100);
        Check.due("a quarter", x.wrongShare(), 0.25);
        x.connect(1, 4, 5, 1, 1);
        x.pass(1);
        Check.due("129 of 512", x.wrongShare(), 129.0 / 512);
        x.begin(100, 66);
        Check.due("wrongShare after begin", x.wrongShare(), 0.0);
        for (int wire = 0; wire < 8; wire++) {
            x.begin(100, 66);
            x.cut(wire, 10, 1, 1);
            x.pass(1);
            Check.due("one of 8", x.wrongShare(), 0.125);
        }
    }
}
