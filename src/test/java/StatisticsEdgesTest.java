/** The edges that the document names for records, and in the promises 18 to 20 and 26. */
public final class StatisticsEdgesTest {
    private static final int LEAST = Integer.MIN_VALUE;
    private static final int MOST = Integer.MAX_VALUE;
    private static final int NONE = CableTester.NONE;

    private StatisticsEdgesTest() {
    }

    public static void main(String[] args) {
        newTick();
        latestRecords();
        numberAndTimes();
        rows();
        changes();
        periods();
        recordsRefuse();
        suspect();
        nextChange();
        nextChangeFarAhead();
        nextChangeChangesNothing();
        wrongShare();
        Check.finish();
    }

    private static void newTick() {
        Check.sentence("Each time that a tick passes, it is recorded for each near pin whether it is wrong at the new"
            + " tick.");
        CableTester x = new CableTester();
        x.cut(0, 5, 2, 1);
        Check.due("wrong at the tick 0", x.status(0), 1);
        Check.due("not recorded without a tick", x.records(0, 0), 0);
        x.pass(1);
        Check.due("a record", x.records(0, 0), 1);
        Check.due("not wrong at the tick 1", x.records(0, 1), 0);
        x.pass(1);
        Check.due("wrong at the tick 2", x.records(0, 1), 1);
        x.repair(0);
        Check.due("what was recorded stays", x.records(0, 1), 1);
        for (int pin = 0; pin < 8; pin++) {
            CableTester one = States.recorded(pin, "1");
            for (int other = 0; other < 8; other++) {
                Check.due("each pin has a record", one.records(other, 0), 1);
                Check.due("each pin has its own", one.records(other, 1), other == pin ? 1 : 0);
            }
        }
    }

    private static void latestRecords() {
        Check.sentence("For each pin the latest 64 records are kept.");
        for (int pin = 0; pin < 8; pin++) {
            CableTester x = States.recorded(pin, "10");
            x.pass(61);
            Answers.dueRecords(x, pin, 63, 1, 1, 1, NONE);
            x.pass(1);
            Answers.dueRecords(x, pin, 64, 1, 1, 1, NONE);
            x.pass(1);
            Answers.dueRecords(x, pin, 64, 0, 0, 0, 1);
            x.pass(100);
            Answers.dueRecords(x, pin, 64, 0, 0, 0, 1);
            CableTester y = States.recorded(pin, "01");
            y.pass(62);
            Answers.dueRecords(y, pin, 64, 63, 63, 1, NONE);
            y.pass(1);
            Answers.dueRecords(y, pin, 64, 64, 64, 0, 1);
        }
        CableTester atOnce = States.recorded(3, "1".repeat(64) + "0");
        atOnce.pass(62);
        Answers.dueRecords(atOnce, 3, 64, 1, 1, 1, NONE);
        CableTester farther = States.recorded(3, "1".repeat(64) + "0");
        farther.pass(100);
        Answers.dueRecords(farther, 3, 64, 0, 0, 0, 1);
    }

    private static void numberAndTimes() {
        Check.sentence("what: 0: the number of records; 1: how often it was wrong");
        for (int number = 0; number <= 66; number++) {
            CableTester wrong = States.recorded(7, "1".repeat(number));
            int kept = Math.min(number, 64);
            Check.due("the number of records", wrong.records(7, 0), kept);
            Check.due("how often it was wrong", wrong.records(7, 1), kept);
            Check.due("how often another one was wrong", wrong.records(0, 1), 0);
        }
    }

    private static void rows() {
        Check.sentence("A row is a sequence of kept records that follow one another.");
        dueRow("1010101", 1);
        dueRow("11011011", 2);
        dueRow("1" + "0".repeat(62) + "1", 1);
        dueRow("11" + "1".repeat(30) + "0" + "1".repeat(33), 33);
        dueRow("1".repeat(20) + "0".repeat(45), 19);
        Check.sentence("2: the length of the longest row in which it was always wrong");
        dueRow("", 0);
        dueRow("0", 0);
        dueRow("1", 1);
        dueRow("0".repeat(64), 0);
        dueRow("1".repeat(64), 64);
        dueRow("1".repeat(65), 64);
        dueRow("1".repeat(63) + "0", 63);
        dueRow("0" + "1".repeat(63), 63);
        dueRow("1101110", 3);
        dueRow("1110110", 3);
        dueRow("0110111", 3);
        dueRow("11011", 2);
        dueRow("10".repeat(32), 1);
        // the oldest record does not follow the latest one
        dueRow("111" + "0".repeat(58) + "111", 3);
        dueRow("1".repeat(31) + "0" + "1".repeat(32), 32);
        // only what is kept counts
        dueRow("1".repeat(10) + "0".repeat(60), 4);
        dueRow("1".repeat(10) + "0".repeat(64), 0);
    }

    private static void dueRow(String records, int due) {
        Check.due("the longest row of " + records, States.recorded(2, records).records(2, 2), due);
    }

    private static void changes() {
        Check.sentence("3: how often a record and the next one are different");
        dueChanges("", 0);
        dueChanges("0", 0);
        dueChanges("1", 0);
        dueChanges("00", 0);
        dueChanges("11", 0);
        dueChanges("01", 1);
        dueChanges("10", 1);
        dueChanges("101", 2);
        dueChanges("1".repeat(64), 0);
        dueChanges("1".repeat(63) + "0", 1);
        dueChanges("1" + "0".repeat(63), 1);
        dueChanges("1" + "0".repeat(64), 0);
        dueChanges("01" + "1".repeat(63), 0);
        dueChanges("10".repeat(32), 63);
        dueChanges("10".repeat(33), 63);
        dueChanges("10".repeat(31) + "1", 62);
    }

    private static void dueChanges(String records, int due) {
        Check.due("the changes of " + records, States.recorded(5, records).records(5, 3), due);
    }

    private static void periods() {
        Check.sentence("4: the least p from 1 to 32 such that there are at least 2 p records, and any two records with"
            + " p - 1 records between them are the same, NONE if there is no such p");
        duePeriod("", NONE);
        duePeriod("1", NONE);
        duePeriod("0", NONE);
        duePeriod("11", 1);
        duePeriod("00", 1);
        duePeriod("01", NONE);
        duePeriod("010", NONE);
        duePeriod("0101", 2);
        duePeriod("01010", 2);
        duePeriod("0100", NONE);
        duePeriod("01001", NONE);
        duePeriod("010010", 3);
        duePeriod("01010101", 2);
        duePeriod("0001000", NONE);
        duePeriod("00010001", 4);
        for (int p = 2; p <= 32; p++) {
            String once = "1" + "0".repeat(p - 1);
            duePeriod((once + once).substring(0, 2 * p - 1), NONE);
            duePeriod(once + once, p);
            duePeriod(once.repeat(1 + 63 / p).substring(0, 64), p);
            // the first, or the last, of just enough records is another one
            duePeriod("0" + (once + once).substring(1), NONE);
            duePeriod((once + once).substring(0, 2 * p - 1) + "1", NONE);
        }
        // 33 would be one: it is too great
        String tooLong = "1" + "0".repeat(32);
        duePeriod(tooLong + tooLong, NONE);
        for (int odd = 0; odd < 64; odd++) {
            duePeriod("0".repeat(odd) + "1" + "0".repeat(63 - odd), NONE);
        }
        // only what is kept counts
        duePeriod("10011" + "0".repeat(64), 1);
        duePeriod("10011" + "01".repeat(32), 2);
    }

    private static void duePeriod(String records, int due) {
        Check.due("the period of " + records, States.recorded(6, records).records(6, 4), due);
    }

    private static void recordsRefuse() {
        Check.sentence("records throws IndexOutOfBoundsException if the pin does not exist");
        for (int pin : new int[] {-1, 8, LEAST, MOST}) {
            for (int what = 0; what <= 4; what++) {
                recordsRefuse(Check.INDEX, pin, what);
            }
        }
        Check.sentence("records throws IllegalArgumentException if what is not 0 to 4");
        for (int what : new int[] {-1, 5, LEAST, MOST}) {
            recordsRefuse(Check.ARGUMENT, 0, what);
            recordsRefuse(Check.ARGUMENT, 7, what);
        }
        Check.sentence("If several exceptions apply, the one that is named first in the throws clause is thrown. (18)");
        recordsRefuse(Check.INDEX, 8, 5);
        recordsRefuse(Check.INDEX, -1, -1);
    }

    private static void recordsRefuse(Class<? extends RuntimeException> kind, int pin, int what) {
        String call = "records(" + pin + ", " + what + ")";
        Check.dueRefusal(States::full, kind, call, t -> t.records(pin, what));
        Check.dueRefusal(CableTester::new, kind, call, t -> t.records(pin, what));
    }

    private static void suspect() {
        Check.sentence("Returns the pin, of several the lowest; NONE if no pin was wrong in the kept records.");
        CableTester x = new CableTester();
        Check.due("no records", x.suspect(), NONE);
        x.cut(0, 5, 1, 1);
        Check.due("wrong, but not recorded", x.suspect(), NONE);
        for (int pin = 0; pin < 8; pin++) {
            Check.due("good records", States.recorded(pin, "000").suspect(), NONE);
            Check.due("one record", States.recorded(pin, "1").suspect(), pin);
            Check.due("the oldest record", States.recorded(pin, "1" + "0".repeat(63)).suspect(), pin);
            Check.due("a record that is not kept", States.recorded(pin, "1" + "0".repeat(64)).suspect(), NONE);
        }
        for (int low = 0; low < 7; low++) {
            for (int high = low + 1; high < 8; high++) {
                CableTester both = new CableTester();
                both.connect(high, low, 50, 1, 1);
                both.pass(2);
                Check.due("the lowest of two", both.suspect(), low);
                both.repair(0);
                both.cut(high, 50, 1, 1);
                both.pass(1);
                Check.due("the higher one once more", both.suspect(), high);
            }
        }
        CableTester all = new CableTester();
        for (int wire = 0; wire < 8; wire++) {
            all.cut(wire, 50, 1, 1);
        }
        all.pass(100);
        Check.due("all always", all.suspect(), 0);
    }

    private static void nextChange() {
        Check.sentence("Finds the next tick at which the near pins that are wrong are other ones than now, if nothing"
            + " is changed.");
        CableTester x = new CableTester();
        x.cut(3, 50, 8, 3);
        Check.due("it goes", x.nextChange(), 3);
        x.pass(2);
        Check.due("it goes at the next tick", x.nextChange(), 1);
        x.pass(1);
        Check.due("it comes", x.nextChange(), 5);
        x.pass(4);
        Check.due("it comes at the next tick", x.nextChange(), 1);
        // as many wrong pins, but other ones
        CableTester other = new CableTester();
        other.cut(0, 5, 2, 1);
        other.cut(7, 5, 3, 1);
        other.pass(2);
        Check.due("the pin 0 is wrong, then the pin 7", other.nextChange(), 1);
        // the same pins, wrong in another way
        CableTester same = new CableTester();
        same.exchange(1, 0, 1);
        same.cut(0, 5, 4, 1);
        same.connect(0, 1, 3, 2, 1);
        Check.due("open, crossed, shorted: wrong all the same", same.nextChange(), NONE);
        // the faults that are present change, the pins do not
        CableTester hidden = new CableTester();
        hidden.cut(4, 5, 1, 1);
        hidden.cut(4, 9, 2, 1);
        hidden.cut(4, 9, 32, 31);
        Check.due("behind a cut that stays", hidden.nextChange(), NONE);
        // away and back again
        CableTester back = new CableTester();
        back.cut(1, 5, 2, 1);
        back.cut(1, 6, 4, 2);
        Check.due("wrong at 0, 1 and 2, not at 3", back.nextChange(), 3);
        back.pass(3);
        Check.due("wrong again at 4", back.nextChange(), 1);
    }

    private static void nextChangeFarAhead() {
        Check.sentence("Returns how many ticks must pass until then, 1 to 100 (ticks above 100000 are looked at, too);"
            + " NONE if it takes longer.");
        Check.due("nothing ever changes", new CableTester().nextChange(), NONE);
        CableTester x = new CableTester();
        // both shorts reach a piece without pins, and are present together at the ticks 0 and 992 only
        x.cut(5, 10, 1, 1);
        x.cut(5, 90, 1, 1);
        x.connect(5, 6, 50, 31, 1);
        x.connect(5, 7, 60, 32, 1);
        Check.due("at once", x.nextChange(), 1);
        Check.due("and then for long", afterTicks(x, 1), NONE);
        Check.due("in 102 ticks", afterTicks(x, 890), NONE);
        Check.due("in 101 ticks", afterTicks(x, 891), NONE);
        Check.due("in 100 ticks", afterTicks(x, 892), 100);
        Check.due("in 99 ticks", afterTicks(x, 893), 99);
        Check.due("in 2 ticks", afterTicks(x, 990), 2);
        Check.due("in 1 tick", afterTicks(x, 991), 1);
        CableTester last = States.beforeLastTick(0);
        // 100000 modulo 7 is 5: the cut is absent, and present again at 100002
        Check.due("above 100000", last.nextChange(), 2);
        last.repair(0);
        Check.due("nothing changes above 100000", last.nextChange(), NONE);
        last.cut(0, 5, 32, 31);
        // 100000 is a multiple of 32
        Check.due("31 ticks above 100000", last.nextChange(), 31);
    }

    private static int afterTicks(CableTester x, int tick) {
        while (x.count(3) < tick) {
            x.pass(Math.min(100, tick - x.count(3)));
        }
        return x.nextChange();
    }

    private static void nextChangeChangesNothing() {
        Check.sentence("Nothing is changed.");
        CableTester asked = States.full();
        asked.nextChange();
        Check.dueAlike("after nextChange", asked, States.full());
        CableTester shortAsked = States.shortest();
        Check.due("nextChange", shortAsked.nextChange(), 2);
        Check.due("nextChange again", shortAsked.nextChange(), 2);
        Check.due("the tick", shortAsked.count(3), 0);
        Check.due("the status now", shortAsked.status(5), 1);
        Check.dueAlike("after nextChange", shortAsked, States.shortest());
    }

    private static void wrongShare() {
        Check.sentence("Returns the number of records, of all near pins together, that say that the pin was wrong, as a"
            + " double, divided by the number of all kept records of all pins");
        for (int number = 1; number <= 66; number++) {
            int kept = Math.min(number, 64);
            CableTester x = States.recorded(number % 8, "1".repeat(number));
            Check.due("one pin of 8, " + number, x.wrongShare(), (double) kept / (8 * kept));
            CableTester once = States.recorded(number % 8, "0".repeat(number - 1) + "1");
            Check.due("one record of " + 8 * kept, once.wrongShare(), 1.0 / (8 * kept));
        }
        CableTester all = new CableTester();
        for (int wire = 0; wire < 8; wire++) {
            all.cut(wire, 50, 1, 1);
        }
        all.pass(1);
        Check.due("all of 8", all.wrongShare(), 1.0);
        all.pass(100);
        Check.due("all of 512", all.wrongShare(), 1.0);
        all.repair(0);
        all.pass(1);
        Check.due("all but one of 512", all.wrongShare(), 511.0 / 512.0);
        CableTester third = States.recorded(0, "100");
        Check.due("1 of 24", third.wrongShare(), 1.0 / 24.0);
        Check.sentence("0.0 if there are none.");
        Check.due("no records", Double.doubleToLongBits(new CableTester().wrongShare()), 0);
        all.begin(100, 66);
        Check.due("no records any more", Double.doubleToLongBits(all.wrongShare()), 0);
        Check.due("none that are wrong", Double.doubleToLongBits(States.recorded(0, "00").wrongShare()), 0);
        Check.due("none that are kept", States.recorded(0, "1" + "0".repeat(64)).wrongShare(), 0.0);
    }
}
