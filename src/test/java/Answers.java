/** Checks of several answers at once. */
final class Answers {
    private Answers() {
    }

    /** count for 0 to 8. */
    static void dueCounts(CableTester x, int... due) {
        for (int what = 0; what <= 8; what++) {
            Check.due("count(" + what + ")", x.count(what), due[what]);
        }
    }

    /** The properties of a fault from 0 on, as many as are due. */
    static void dueFault(CableTester x, int fault, int... due) {
        for (int what = 0; what < due.length; what++) {
            Check.due("fault(" + fault + ", " + what + ")", x.fault(fault, what), due[what]);
        }
    }

    static void dueJoined(CableTester x, int pin, int nearNear, int nearFar, int farFar) {
        Check.due("joined(0, " + pin + ", 0)", x.joined(0, pin, 0), nearNear);
        Check.due("joined(0, " + pin + ", 1)", x.joined(0, pin, 1), nearFar);
        Check.due("joined(1, " + pin + ", 1)", x.joined(1, pin, 1), farFar);
    }

    /** echo for 0 and 3. */
    static void dueKindAndPlace(CableTester x, int pin, int kind, int place) {
        Check.due("echo(" + pin + ", 0)", x.echo(pin, 0), kind);
        Check.due("echo(" + pin + ", 3)", x.echo(pin, 3), place);
    }

    /** records for 0 to 4. */
    static void dueRecords(CableTester x, int pin, int... due) {
        for (int what = 0; what <= 4; what++) {
            Check.due("records(" + pin + ", " + what + ")", x.records(pin, what), due[what]);
        }
    }

    /** explain for 0 to 4. */
    static void dueNumbers(CableTester x, int cuts, int shorts, int exchanges, int splits) {
        Check.due("cuts", x.explain(0), cuts);
        Check.due("shorts", x.explain(1), shorts);
        Check.due("exchanges", x.explain(2), exchanges);
        Check.due("splits", x.explain(3), splits);
        Check.due("the sum", x.explain(4), cuts + shorts + exchanges + splits);
    }

    /** explained for all pins. */
    static void duePermutation(CableTester x, int... due) {
        for (int pin = 0; pin < 8; pin++) {
            Check.due("explained(" + pin + ")", x.explained(pin), due[pin]);
        }
    }
}
