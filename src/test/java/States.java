/** States at the edges of what an object can hold. */
final class States {
    /** A complete text with as many characters as the buffer has. */
    static final String FIFTY = "n01;".repeat(10) + "c0@1/10:10";

    private States() {
    }

    /** The longest cable, 10 faults, a unit, exchanged wires, 64 records and a full buffer. */
    static CableTester full() {
        CableTester x = Check.typed(FIFTY);
        x.begin(999, 99);
        x.plug(99);
        x.exchange(0, 1, 6);
        x.exchange(1, 2, 3);
        for (int i = 0; i < 5; i++) {
            x.cut(i, 1 + 7 * i, 3 + 2 * i, 1 + i);
            x.connect(i, i + 3, 998 - 9 * i, 32 - i, 11 + i);
        }
        x.pass(70);
        return x;
    }

    /** The shortest cable, with a cut that comes and goes. */
    static CableTester shortest() {
        CableTester x = new CableTester();
        x.begin(2, 50);
        x.cut(5, 1, 5, 2);
        return x;
    }

    /** So many ticks before the last one; only a run of more than 512 calls comes that far. */
    static CableTester beforeLastTick(int ticks) {
        CableTester x = new CableTester();
        x.cut(2, 5, 7, 3);
        for (int i = 0; i < 999; i++) {
            x.pass(100);
        }
        if (ticks < 100) {
            x.pass(100 - ticks);
        }
        return x;
    }

    /** The near pin has these records, from the oldest to the latest: 1 says that it was wrong. */
    static CableTester recorded(int pin, String records) {
        CableTester x = new CableTester();
        for (int i = 0; i < records.length(); i++) {
            boolean wrong = records.charAt(i) == '1';
            if (wrong && x.count(4) == 0) {
                x.cut(pin, 50, 1, 1);
            } else if (!wrong && x.count(4) == 1) {
                x.repair(0);
            }
            x.pass(1);
        }
        return x;
    }
}
