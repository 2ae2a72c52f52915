import java.util.ArrayList;

/**
 * A tester for network cables with four twisted pairs.
 *
 * <p>Inside, a contact is a pin of either end: contact k is the near pin k, contact 8 + k the far pin k.
 * A set of faults, pins or contacts is held as a bit mask.
 */
public final class CableTester {
    /** There is nothing to return. */
    public static final int NONE = -1;

    private static final int NEAR = 0;
    private static final int FAR = 1;
    private static final int PINS = 8;
    private static final int PAIRS = 4;
    private static final int CONTACTS = 16;
    private static final int ALL_PINS = 255;
    private static final int MOST_FAULTS = 10;
    private static final int MOST_PERIOD = 32;
    private static final int MOST_TICKS = 100;
    private static final int LAST_TICK = 100000;
    private static final int MOST_CODES = 50;
    private static final int MOST_PLACE = 998;

    private static final int GOOD = 0;
    private static final int OPEN = 1;
    private static final int CROSSED = 2;
    private static final int SHORTED = 3;

    private final Cable cable = new Cable();
    private final Nets nets = new Nets();
    private final Explainer explainer = new Explainer();
    private final History history = new History();
    private final Text text = new Text();

    public CableTester() {
        cable.lay(100, 66);
    }

    // ---- the cable

    public int begin(int length, int velocity) throws IllegalArgumentException {
        needRange(length, 2, 999);
        needRange(velocity, 50, 99);
        int previous = cable.length;
        cable.lay(length, velocity);
        history.forget();
        return previous;
    }

    public int exchange(int end, int pin, int other) throws IllegalArgumentException, IndexOutOfBoundsException {
        needEnd(end);
        needDifferent(pin, other);
        needIndex(pin, PINS);
        needIndex(other, PINS);
        cable.swapWires(end, pin, other);
        return cable.wireAt(end, pin);
    }

    public int cut(int wire, int place, int period, int duration)
            throws IndexOutOfBoundsException, IllegalArgumentException, IllegalStateException {
        needIndex(wire, PINS);
        needFaultRanges(place, period, duration);
        needRoomForFault();
        return cable.addFault(new Fault(wire, NONE, place, period, duration));
    }

    public int connect(int wire, int other, int place, int period, int duration)
            throws IndexOutOfBoundsException, IllegalArgumentException, IllegalStateException {
        needIndex(wire, PINS);
        needIndex(other, PINS);
        needDifferent(wire, other);
        needFaultRanges(place, period, duration);
        needRoomForFault();
        return cable.addFault(new Fault(wire, other, place, period, duration));
    }

    public int repair(int fault) throws IndexOutOfBoundsException {
        needIndex(fault, cable.faults.size());
        cable.faults.remove(fault);
        return cable.faults.size();
    }

    public int plug(int number) throws IllegalArgumentException {
        needRange(number, 0, 99);
        int previous = cable.unit;
        cable.unit = number;
        return previous;
    }

    public int pass(int ticks) throws IllegalArgumentException, IllegalStateException {
        needRange(ticks, 1, MOST_TICKS);
        if (cable.tick > LAST_TICK - ticks) {
            throw new IllegalStateException("the tick would be too great");
        }
        measure();
        for (int i = 0; i < ticks; i++) {
            cable.tick++;
            measureOnwards(cable.tick);
            history.note(nets.wrongPins);
        }
        return cable.tick;
    }

    // ---- texts

    public int append(int code) throws IllegalArgumentException, IllegalStateException {
        needRange(code, 33, 126);
        if (text.length >= MOST_CODES) {
            throw new IllegalStateException("the buffer is full");
        }
        text.add(code);
        return text.length;
    }

    public int clearBuffer() {
        int previous = text.length;
        text.length = 0;
        return previous;
    }

    public int firstError() {
        return text.errorIndex();
    }

    public int load() throws IllegalArgumentException, IllegalStateException {
        if (!text.isComplete()) {
            throw new IllegalArgumentException("the buffer is not a complete text");
        }
        if (!textFitsCable()) {
            throw new IllegalStateException("the text does not fit the cable");
        }
        int items = carryOutText();
        text.length = 0;
        return items;
    }

    // ---- what is measured at the present tick

    public int joined(int end, int pin, int to) throws IllegalArgumentException, IndexOutOfBoundsException {
        needEnd(end);
        needEnd(to);
        needIndex(pin, PINS);
        measure();
        return nets.joinedPins(end, pin, to);
    }

    public int status(int pin) throws IndexOutOfBoundsException {
        needIndex(pin, PINS);
        measure();
        return nets.statusOf(pin);
    }

    public int echo(int pin, int what) throws IndexOutOfBoundsException, IllegalArgumentException {
        needIndex(pin, PINS);
        needRange(what, 0, 3);
        return cable.echoAt(pin, what);
    }

    public int crosstalk(int pair, int other) throws IndexOutOfBoundsException {
        needIndex(pair, PAIRS);
        needIndex(other, PAIRS);
        return cable.crosstalkOf(pair, other);
    }

    public int identify() {
        measure();
        return identifiedUnit();
    }

    // ---- statistics

    public int records(int pin, int what) throws IndexOutOfBoundsException, IllegalArgumentException {
        needIndex(pin, PINS);
        needRange(what, 0, 4);
        return history.numberAbout(pin, what);
    }

    public int suspect() {
        return history.mostWrongPin();
    }

    public int nextChange() {
        measure();
        int wrongNow = nets.wrongPins;
        for (int ahead = 1; ahead <= MOST_TICKS; ahead++) {
            measureOnwards(cable.tick + ahead);
            if (nets.wrongPins != wrongNow) {
                return ahead;
            }
        }
        return NONE;
    }

    // ---- explanations

    public int explain(int what) throws IllegalArgumentException {
        needRange(what, 0, 4);
        measure();
        explainer.findBest(nets);
        return explanationNumber(what);
    }

    public int explained(int pin) throws IndexOutOfBoundsException {
        needIndex(pin, PINS);
        measure();
        explainer.findBest(nets);
        return explainer.farPinFor(pin);
    }

    // ---- what there is

    public int count(int what) throws IllegalArgumentException {
        needRange(what, 0, 8);
        measure();
        return numberOf(what);
    }

    public int fault(int fault, int what) throws IndexOutOfBoundsException, IllegalArgumentException {
        needIndex(fault, cable.faults.size());
        needRange(what, 0, 6);
        return cable.faults.get(fault).property(what, cable.tick);
    }

    public int wire(int end, int pin) throws IllegalArgumentException, IndexOutOfBoundsException {
        needEnd(end);
        needIndex(pin, PINS);
        return cable.wireAt(end, pin);
    }

    public double wrongShare() {
        return history.shareOfWrong();
    }

    public long digest() {
        measure();
        explainer.findBest(nets);
        long hash = 2011;
        for (int what = 0; what <= 8; what++) {
            hash = mix(hash, numberOf(what));
        }
        for (int i = 0; i < cable.faults.size(); i++) {
            for (int what = 0; what <= 6; what++) {
                hash = mix(hash, cable.faults.get(i).property(what, cable.tick));
            }
        }
        for (int pin = 0; pin < PINS; pin++) {
            hash = mixPin(hash, pin);
        }
        for (int pair = 0; pair < PAIRS; pair++) {
            for (int other = pair + 1; other < PAIRS; other++) {
                hash = mix(hash, cable.crosstalkOf(pair, other));
            }
        }
        hash = mix(hash, identifiedUnit());
        hash = mix(hash, history.mostWrongPin());
        for (int what = 0; what <= 4; what++) {
            hash = mix(hash, explanationNumber(what));
        }
        hash = mix(hash, text.length);
        for (int i = 0; i < text.length; i++) {
            hash = mix(hash, text.codeAt(i));
        }
        return hash;
    }

    // ---- what arguments must be

    private static void needIndex(int index, int size) {
        if (index < 0 || index >= size) {
            throw new IndexOutOfBoundsException("there is none with this number");
        }
    }

    private static void needRange(int value, int least, int most) {
        if (value < least || value > most) {
            throw new IllegalArgumentException("an argument is out of range");
        }
    }

    private static void needEnd(int end) {
        needRange(end, NEAR, FAR);
    }

    private static void needDifferent(int one, int other) {
        if (one == other) {
            throw new IllegalArgumentException("both are the same");
        }
    }

    private void needFaultRanges(int place, int period, int duration) {
        needRange(place, 1, cable.length - 1);
        needRange(period, 1, MOST_PERIOD);
        needRange(duration, 1, period);
    }

    private void needRoomForFault() {
        if (cable.faults.size() >= MOST_FAULTS) {
            throw new IllegalStateException("there are too many faults");
        }
    }

    // ---- parts of the calls

    private void measure() {
        nets.measure(cable, cable.presentFaults(cable.tick));
    }

    /** Only for use after measure() in the same call: then other nets can come from other present faults alone. */
    private void measureOnwards(int tick) {
        int present = cable.presentFaults(tick);
        if (present != nets.present) {
            nets.measure(cable, present);
        }
    }

    private boolean textFitsCable() {
        int faults = cable.faults.size();
        text.rewind();
        for (int i = 0; i < MOST_CODES && text.readItem(); i++) {
            if (text.itemIsFault()) {
                faults++;
                if (text.place >= cable.length) {
                    return false;
                }
            }
        }
        return faults <= MOST_FAULTS;
    }

    private int carryOutText() {
        int items = 0;
        text.rewind();
        for (int i = 0; i < MOST_CODES && text.readItem(); i++) {
            items++;
            if (text.itemIsFault()) {
                cable.addFault(new Fault(text.first, text.second, text.place, text.period, text.duration));
            } else {
                cable.swapWires(text.letter == 'n' ? NEAR : FAR, text.first, text.second);
            }
        }
        return items;
    }

    private int identifiedUnit() {
        if (cable.unit == 0) {
            return NONE;
        }
        for (int pair = 0; pair < PAIRS; pair++) {
            boolean bothGood = nets.statusOf(2 * pair) == GOOD && nets.statusOf(2 * pair + 1) == GOOD;
            if (bothGood && !cable.isSplit(pair)) {
                return cable.unit;
            }
        }
        return NONE;
    }

    private int explanationNumber(int what) {
        int cuts = explainer.cuts();
        int shorts = nets.shortsNeeded();
        int exchanges = explainer.exchanges();
        int splits = cable.splitsNeeded();
        switch (what) {
            case 0: return cuts;
            case 1: return shorts;
            case 2: return exchanges;
            case 3: return splits;
            default: return cuts + shorts + exchanges + splits;
        }
    }

    private int numberOf(int what) {
        switch (what) {
            case 0: return cable.length;
            case 1: return cable.velocity;
            case 2: return cable.unit;
            case 3: return cable.tick;
            case 4: return cable.faults.size();
            case 5: return Integer.bitCount(nets.present);
            case 6: return nets.size();
            case 7: return Integer.bitCount(nets.wrongPins);
            default: return cable.splitPairs();
        }
    }

    private static long mix(long hash, int value) {
        return 31 * hash + value;
    }

    private long mixPin(long start, int pin) {
        long hash = mix(start, cable.wireAt(NEAR, pin));
        hash = mix(hash, cable.wireAt(FAR, pin));
        hash = mix(hash, nets.joinedPins(NEAR, pin, NEAR));
        hash = mix(hash, nets.joinedPins(NEAR, pin, FAR));
        hash = mix(hash, nets.joinedPins(FAR, pin, FAR));
        hash = mix(hash, nets.statusOf(pin));
        for (int what = 0; what <= 3; what++) {
            hash = mix(hash, cable.echoAt(pin, what));
        }
        for (int what = 0; what <= 4; what++) {
            hash = mix(hash, history.numberAbout(pin, what));
        }
        return mix(hash, explainer.farPinFor(pin));
    }

    /** A cut of a wire, or a short between two wires. */
    private static final class Fault {
        private final int wire;
        /** NONE for a cut. */
        private final int other;
        private final int place;
        private final int period;
        private final int duration;

        Fault(int wire, int other, int place, int period, int duration) {
            this.wire = wire;
            this.other = other;
            this.place = place;
            this.period = period;
            this.duration = duration;
        }

        boolean isShort() {
            return other != NONE;
        }

        boolean isPresent(int tick) {
            return period > 0 && tick % period < duration;
        }

        boolean touches(int someWire) {
            return wire == someWire || other == someWire;
        }

        boolean isMetBefore(Fault that) {
            return place < that.place || place == that.place && isShort() && !that.isShort();
        }

        int property(int what, int tick) {
            switch (what) {
                case 0: return isShort() ? 1 : 0;
                case 1: return wire;
                case 2: return other;
                case 3: return place;
                case 4: return period;
                case 5: return duration;
                default: return isPresent(tick) ? 1 : 0;
            }
        }
    }

    /** The wires, the faults and the present tick. */
    private static final class Cable {
        private int length;
        private int velocity;
        private int unit;
        private int tick;
        /** The wire of each contact. */
        private final int[] wires = new int[CONTACTS];
        private final ArrayList<Fault> faults = new ArrayList<Fault>();
        private final Groups linkedPairs = new Groups(PAIRS);

        void lay(int newLength, int newVelocity) {
            length = newLength;
            velocity = newVelocity;
            unit = 0;
            tick = 0;
            for (int i = 0; i < wires.length; i++) {
                wires[i] = i % PINS;
            }
            faults.clear();
        }

        int addFault(Fault fault) {
            faults.add(fault);
            return faults.size() - 1;
        }

        int wireAt(int end, int pin) {
            int contact = end * PINS + pin;
            return contact >= 0 && contact < wires.length ? wires[contact] : NONE;
        }

        void swapWires(int end, int pin, int other) {
            int one = end * PINS + pin;
            int two = end * PINS + other;
            if (one < 0 || one >= wires.length || two < 0 || two >= wires.length) {
                return;
            }
            int wire = wires[one];
            wires[one] = wires[two];
            wires[two] = wire;
        }

        int presentFaults(int when) {
            int present = 0;
            for (int i = 0; i < faults.size(); i++) {
                if (faults.get(i).isPresent(when)) {
                    present |= 1 << i;
                }
            }
            return present;
        }

        int echoAt(int pin, int what) {
            int event = firstEvent(wireAt(NEAR, pin), presentFaults(tick));
            if (event == NONE && unit != 0) {
                return NONE;
            }
            boolean atFault = event >= 0 && event < faults.size();
            int place = atFault ? faults.get(event).place : length;
            int time = rounded(200 * place, 3 * velocity);
            switch (what) {
                case 0: return atFault && faults.get(event).isShort() ? 1 : 0;
                case 1: return time;
                case 2: return rounded(3 * velocity * time, 200);
                default: return place;
            }
        }

        private int firstEvent(int wire, int present) {
            int first = NONE;
            for (int i = 0; i < faults.size(); i++) {
                if ((present >> i & 1) != 0 && faults.get(i).touches(wire)
                        && (first == NONE || faults.get(i).isMetBefore(faults.get(first)))) {
                    first = i;
                }
            }
            return first;
        }

        private static int rounded(int dividend, int divisor) {
            return divisor > 0 ? (2 * dividend + divisor) / (2 * divisor) : 0;
        }

        int crosstalkOf(int pair, int other) {
            if (pair == other) {
                return 0;
            }
            int crosstalk = 0;
            for (int k = 0; k < PAIRS; k++) {
                int one = nearPairOf(2 * k);
                int two = nearPairOf(2 * k + 1);
                if (one == pair && two == other || one == other && two == pair) {
                    crosstalk++;
                }
            }
            return crosstalk;
        }

        private int nearPairOf(int wire) {
            for (int pin = 0; pin < PINS; pin++) {
                if (wires[pin] == wire) {
                    return pin / 2;
                }
            }
            return NONE;
        }

        boolean isSplit(int pair) {
            return wireAt(NEAR, 2 * pair) / 2 != wireAt(NEAR, 2 * pair + 1) / 2;
        }

        int splitPairs() {
            int split = 0;
            for (int pair = 0; pair < PAIRS; pair++) {
                if (isSplit(pair)) {
                    split |= 1 << pair;
                }
            }
            return split;
        }

        /** A set of n linked pairs is put together in n - 1 steps. */
        int splitsNeeded() {
            int splits = 0;
            linkedPairs.separate();
            for (int pair = 0; pair < PAIRS; pair++) {
                for (int other = pair + 1; other < PAIRS; other++) {
                    if (crosstalkOf(pair, other) != 0 && linkedPairs.unite(pair, other)) {
                        splits++;
                    }
                }
            }
            return splits;
        }
    }

    /** Things with the numbers from 0 on, each alone at first, that are put together step by step. */
    private static final class Groups {
        private final int[] groups;

        Groups(int size) {
            groups = new int[Math.max(size, 0)];
        }

        void separate() {
            for (int i = 0; i < groups.length; i++) {
                groups[i] = i;
            }
        }

        int groupOf(int thing) {
            return thing >= 0 && thing < groups.length ? groups[thing] : NONE;
        }

        /** Says whether they were in different groups before. */
        boolean unite(int thing, int other) {
            int kept = groupOf(thing);
            int given = groupOf(other);
            if (kept == given) {
                return false;
            }
            for (int i = 0; i < groups.length; i++) {
                if (groups[i] == given) {
                    groups[i] = kept;
                }
            }
            return true;
        }
    }

    /** Which contacts are joined while a set of faults is present. */
    private static final class Nets {
        private int present;
        private int wrongPins;
        private int cuts;
        private final int[] cutWires = new int[MOST_FAULTS];
        private final int[] cutPlaces = new int[MOST_FAULTS];
        /** Each wire has a piece more than cuts. */
        private final Groups pieces = new Groups(PINS + MOST_FAULTS);
        /** For each contact the group of its piece, which stands for its net. */
        private final int[] netOf = new int[CONTACTS];
        /** For each contact all contacts of its net. */
        private final int[] members = new int[CONTACTS];

        void measure(Cable cable, int presentFaults) {
            present = presentFaults;
            collectCuts(cable);
            uniteShortedPieces(cable);
            for (int pin = 0; pin < PINS; pin++) {
                netOf[pin] = pieces.groupOf(pieceAt(cable.wireAt(NEAR, pin), 0));
                netOf[PINS + pin] = pieces.groupOf(pieceAt(cable.wireAt(FAR, pin), cable.length));
            }
            collectMembers();
            collectWrongPins();
        }

        private void collectCuts(Cable cable) {
            cuts = 0;
            for (int i = 0; i < cable.faults.size(); i++) {
                Fault fault = cable.faults.get(i);
                if ((present >> i & 1) != 0 && !fault.isShort() && cuts < MOST_FAULTS) {
                    cutWires[cuts] = fault.wire;
                    cutPlaces[cuts] = fault.place;
                    cuts++;
                }
            }
        }

        private void uniteShortedPieces(Cable cable) {
            pieces.separate();
            for (int i = 0; i < cable.faults.size(); i++) {
                Fault fault = cable.faults.get(i);
                if ((present >> i & 1) != 0 && fault.isShort()) {
                    pieces.unite(pieceAt(fault.wire, fault.place), pieceAt(fault.other, fault.place));
                }
            }
        }

        /**
         * The piece of a wire at a place, or on the near side of it where it is cut. All pieces of all wires are
         * counted, from the near end of wire 0 to the far end of wire 7.
         */
        private int pieceAt(int wire, int place) {
            int piece = wire;
            for (int i = 0; i < cuts && i < MOST_FAULTS; i++) {
                if (cutWires[i] < wire || cutWires[i] == wire && cutPlaces[i] < place) {
                    piece++;
                }
            }
            return piece;
        }

        private void collectMembers() {
            for (int i = 0; i < CONTACTS; i++) {
                members[i] = 1 << i;
                for (int j = 0; j < i; j++) {
                    if (netOf[i] == netOf[j]) {
                        members[i] |= 1 << j;
                        members[j] |= 1 << i;
                    }
                }
            }
        }

        private void collectWrongPins() {
            wrongPins = 0;
            for (int pin = 0; pin < PINS; pin++) {
                if (statusOf(pin) != GOOD) {
                    wrongPins |= 1 << pin;
                }
            }
        }

        private int membersWith(int contact) {
            return contact >= 0 && contact < members.length ? members[contact] : 0;
        }

        int nearPinsWith(int end, int pin) {
            return membersWith(end * PINS + pin) & ALL_PINS;
        }

        int farPinsWith(int end, int pin) {
            return membersWith(end * PINS + pin) >> PINS;
        }

        int joinedPins(int end, int pin, int to) {
            int pins = to == NEAR ? nearPinsWith(end, pin) : farPinsWith(end, pin);
            return end == to ? pins & ~(1 << pin) : pins;
        }

        int statusOf(int pin) {
            int far = farPinsWith(NEAR, pin);
            if (Integer.bitCount(nearPinsWith(NEAR, pin)) > 1 || Integer.bitCount(far) > 1) {
                return SHORTED;
            }
            if (far == 0) {
                return OPEN;
            }
            return far == 1 << pin ? GOOD : CROSSED;
        }

        /** Each net is counted at its first contact. */
        private boolean isFirstOfNet(int contact) {
            return (membersWith(contact) & (1 << contact) - 1) == 0;
        }

        int size() {
            int size = 0;
            for (int i = 0; i < CONTACTS; i++) {
                if (isFirstOfNet(i)) {
                    size++;
                }
            }
            return size;
        }

        int shortsNeeded() {
            int shorts = 0;
            for (int i = 0; i < CONTACTS; i++) {
                if (isFirstOfNet(i)) {
                    int near = Integer.bitCount(members[i] & ALL_PINS);
                    int far = Integer.bitCount(members[i] >> PINS);
                    shorts += Math.max(near, far) - 1;
                }
            }
            return shorts;
        }
    }

    /** Finds the best explanation. */
    private static final class Explainer {
        /** For each near pin, the far pins of its net. */
        private final int[] uncut = new int[PINS];
        /** For each near pin, the far pins that explanations with the fewest cuts may give to it. */
        private final int[] allowed = new int[PINS];
        private final int[] given = new int[PINS];
        private final int[] best = new int[PINS];
        private int bestCycles;

        void findBest(Nets nets) {
            allowFewestCuts(nets);
            bestCycles = 0;
            tryFarPins(0, 0, 0);
        }

        /**
         * There are fewest cuts if each net is given as many of its own far pins as it can be. So near pins go
         * to other nets only out of nets with more near pins than far ones, and only into nets of which the
         * opposite is true. Permutations that keep to this are just those with the fewest cuts.
         */
        private void allowFewestCuts(Nets nets) {
            int spareFarPins = 0;
            for (int pin = 0; pin < PINS; pin++) {
                int near = Integer.bitCount(nets.nearPinsWith(FAR, pin));
                if (Integer.bitCount(nets.farPinsWith(FAR, pin)) > near) {
                    spareFarPins |= 1 << pin;
                }
            }
            for (int pin = 0; pin < PINS; pin++) {
                int near = Integer.bitCount(nets.nearPinsWith(NEAR, pin));
                uncut[pin] = nets.farPinsWith(NEAR, pin);
                boolean spare = near > Integer.bitCount(uncut[pin]);
                allowed[pin] = spare ? uncut[pin] | spareFarPins : uncut[pin];
            }
        }

        /**
         * Goes through the permutations in lexicographic order, so that of several that are equally good
         * the first one stays. Each pin that is left can close one cycle at most.
         */
        private void tryFarPins(int pin, int used, int cycles) {
            if (cycles + PINS - pin <= bestCycles) {
                return;
            }
            if (pin >= PINS) {
                bestCycles = cycles;
                System.arraycopy(given, 0, best, 0, PINS);
                return;
            }
            for (int far = 0; far < PINS; far++) {
                if ((allowed[pin] & ~used & 1 << far) != 0) {
                    given[pin] = far;
                    tryFarPins(pin + 1, used | 1 << far, closesCycle(pin) ? cycles + 1 : cycles);
                }
            }
        }

        /** All lower pins, and only they, have been given far pins before this one. */
        private boolean closesCycle(int pin) {
            int reached = given[pin];
            for (int steps = 0; steps < PINS && reached >= 0 && reached < pin; steps++) {
                reached = given[reached];
            }
            return reached == pin;
        }

        int cuts() {
            int cuts = 0;
            for (int pin = 0; pin < PINS; pin++) {
                if ((uncut[pin] >> best[pin] & 1) == 0) {
                    cuts++;
                }
            }
            return cuts;
        }

        int exchanges() {
            return PINS - bestCycles;
        }

        int farPinFor(int pin) {
            return pin >= 0 && pin < best.length ? best[pin] : NONE;
        }
    }

    /** The kept records of the near pins. */
    private static final class History {
        private static final int MOST_KEPT = 64;

        /** For each pin a bit for each record, 1 if it was wrong; the latest one is the lowest bit. */
        private final long[] wrong = new long[PINS];
        private int kept;

        void forget() {
            kept = 0;
            for (int pin = 0; pin < wrong.length; pin++) {
                wrong[pin] = 0;
            }
        }

        /** A long has as many bits as records are kept, so that the shift drops the oldest one. */
        void note(int wrongPins) {
            for (int pin = 0; pin < wrong.length; pin++) {
                wrong[pin] = wrong[pin] << 1 | wrongPins >> pin & 1;
            }
            kept = Math.min(kept + 1, MOST_KEPT);
        }

        int numberAbout(int pin, int what) {
            switch (what) {
                case 0: return kept;
                case 1: return timesWrong(pin);
                case 2: return longestWrongRow(pin);
                case 3: return changes(pin);
                default: return leastPeriod(pin);
            }
        }

        private long bitsOf(int pin) {
            return pin >= 0 && pin < wrong.length ? wrong[pin] : 0;
        }

        private int timesWrong(int pin) {
            return Long.bitCount(bitsOf(pin));
        }

        /** Each step makes every row of wrong records shorter by one. */
        private int longestWrongRow(int pin) {
            long rows = bitsOf(pin);
            int longest = 0;
            for (int i = 0; i < MOST_KEPT && rows != 0; i++) {
                rows &= rows << 1;
                longest++;
            }
            return longest;
        }

        private int changes(int pin) {
            return kept < 2 ? 0 : Long.bitCount(differences(pin, 1));
        }

        private int leastPeriod(int pin) {
            for (int p = 1; p <= MOST_PERIOD && 2 * p <= kept; p++) {
                if (differences(pin, p) == 0) {
                    return p;
                }
            }
            return NONE;
        }

        /** A bit for each two records at this distance, which is 1 to the number of kept records minus 1. */
        private long differences(int pin, int distance) {
            long bits = bitsOf(pin);
            return (bits ^ bits >>> distance) & (1L << kept - distance) - 1;
        }

        int mostWrongPin() {
            int worst = NONE;
            int most = 0;
            for (int pin = 0; pin < PINS; pin++) {
                if (timesWrong(pin) > most) {
                    worst = pin;
                    most = timesWrong(pin);
                }
            }
            return worst;
        }

        double shareOfWrong() {
            if (kept <= 0) {
                return 0.0;
            }
            int times = 0;
            for (int pin = 0; pin < PINS; pin++) {
                times += timesWrong(pin);
            }
            return (double) times / (PINS * kept);
        }
    }

    /** The buffer, and a reader that takes its characters one after another. */
    private static final class Text {
        private static final int AT_LETTER = 0;
        private static final int AT_FIRST = 1;
        private static final int AT_SECOND = 2;
        private static final int AT_SIGN = 3;
        private static final int IN_PLACE = 4;
        private static final int IN_PERIOD = 5;
        private static final int IN_DURATION = 6;
        private static final int BEHIND_PINS = 7;

        private final int[] codes = new int[MOST_CODES];
        private int length;

        private int position;
        private int state;
        /** What the item says that was read last. */
        private int letter;
        private int first;
        /** NONE for a cut. */
        private int second;
        private int place;
        private int period;
        private int duration;

        void add(int code) {
            if (length >= 0 && length < codes.length) {
                codes[length] = code;
                length++;
            }
        }

        int codeAt(int index) {
            return index >= 0 && index < codes.length ? codes[index] : 0;
        }

        void rewind() {
            position = 0;
            state = AT_LETTER;
        }

        int errorIndex() {
            rewind();
            for (int i = 0; i < length; i++) {
                if (!read(codeAt(i))) {
                    return i;
                }
            }
            return length;
        }

        boolean isComplete() {
            return errorIndex() == length && isItemWhole();
        }

        /** Reads on behind the next item of a complete text; says whether there was one. */
        boolean readItem() {
            if (position >= length) {
                return false;
            }
            boolean behind = false;
            for (; position < length && !behind; position++) {
                read(codeAt(position));
                behind = codeAt(position) == ';';
            }
            return true;
        }

        boolean itemIsFault() {
            return letter == 'c' || letter == 's';
        }

        private boolean isItemWhole() {
            return state == BEHIND_PINS || state == IN_PLACE && place > 0 || state == IN_DURATION && duration > 0;
        }

        /** Says whether the character is no syntax error. */
        private boolean read(int code) {
            if (code == ';') {
                boolean whole = isItemWhole();
                state = AT_LETTER;
                return whole;
            }
            switch (state) {
                case AT_LETTER: return readLetter(code);
                case AT_FIRST: return readFirst(code);
                case AT_SECOND: return readSecond(code);
                case AT_SIGN: return readSign(code);
                case IN_PLACE: return readPlace(code);
                case IN_PERIOD: return readPeriod(code);
                case IN_DURATION: return readDuration(code);
                default: return false;
            }
        }

        private boolean readLetter(int code) {
            letter = code;
            second = NONE;
            place = 0;
            period = 1;
            duration = 1;
            state = AT_FIRST;
            return itemIsFault() || letter == 'n' || letter == 'f';
        }

        private boolean readFirst(int code) {
            first = code - '0';
            state = letter == 'c' ? AT_SIGN : AT_SECOND;
            return first >= 0 && first < PINS;
        }

        private boolean readSecond(int code) {
            second = code - '0';
            state = letter == 's' ? AT_SIGN : BEHIND_PINS;
            return second >= 0 && second < PINS && second != first;
        }

        private boolean readSign(int code) {
            state = IN_PLACE;
            return code == '@';
        }

        private boolean readPlace(int code) {
            if (code == '/' && place > 0) {
                state = IN_PERIOD;
                period = 0;
                duration = 0;
                return true;
            }
            place = longerNumber(place, code, MOST_PLACE);
            return place != NONE;
        }

        private boolean readPeriod(int code) {
            if (code == ':' && period > 0) {
                state = IN_DURATION;
                return true;
            }
            period = longerNumber(period, code, MOST_PERIOD);
            return period != NONE;
        }

        private boolean readDuration(int code) {
            duration = longerNumber(duration, code, period);
            return duration != NONE;
        }

        /** The number with a digit behind it; 0 stands for a number without digits. */
        private static int longerNumber(int number, int code, int most) {
            if (code < '0' || code > '9') {
                return NONE;
            }
            int longer = 10 * number + code - '0';
            return longer >= 1 && longer <= most ? longer : NONE;
        }
    }
}
