import java.math.BigDecimal;
import java.math.RoundingMode;
import java.util.ArrayList;
import java.util.Arrays;
import java.util.List;
import java.util.regex.Matcher;
import java.util.regex.Pattern;

/**
 * The document once more, written as near to its words as it goes and without a thought of speed:
 * joins are searched point by point along the wires, explanations among all permutations, texts by a regular
 * expression, records in lists.
 */
final class Model {
    private static final Pattern TEXT = Pattern.compile(textExpression());
    private static final int[][] PERMUTATIONS = permutations();

    private int length = 100;
    private int velocity = 66;
    private int unit = 0;
    private int tick = 0;
    private final int[][] wires = new int[2][8];
    private final List<int[]> faults = new ArrayList<>();
    private final List<boolean[]> records = new ArrayList<>();
    private String buffer = "";

    Model() {
        clear();
    }

    private void clear() {
        unit = 0;
        tick = 0;
        for (int end = 0; end < 2; end++) {
            for (int pin = 0; pin < 8; pin++) {
                wires[end][pin] = pin;
            }
        }
        faults.clear();
        records.clear();
    }

    // ---- what an argument must be, in the order of the throws clauses

    private static void argument(boolean fine) {
        if (!fine) {
            throw new IllegalArgumentException();
        }
    }

    private static void index(int index, int size) {
        if (index < 0 || index >= size) {
            throw new IndexOutOfBoundsException();
        }
    }

    private static void state(boolean fine) {
        if (!fine) {
            throw new IllegalStateException();
        }
    }

    private static boolean within(int value, int least, int most) {
        return least <= value && value <= most;
    }

    // ---- the cable

    int begin(int newLength, int newVelocity) {
        argument(within(newLength, 2, 999) && within(newVelocity, 50, 99));
        int previous = length;
        length = newLength;
        velocity = newVelocity;
        clear();
        return previous;
    }

    int exchange(int end, int pin, int other) {
        argument(within(end, 0, 1) && pin != other);
        index(pin, 8);
        index(other, 8);
        int wire = wires[end][pin];
        wires[end][pin] = wires[end][other];
        wires[end][other] = wire;
        return wires[end][pin];
    }

    int cut(int wire, int place, int period, int duration) {
        index(wire, 8);
        argument(fits(place, period, duration));
        state(faults.size() < 10);
        faults.add(new int[] {0, wire, -1, place, period, duration});
        return faults.size() - 1;
    }

    int connect(int wire, int other, int place, int period, int duration) {
        index(wire, 8);
        index(other, 8);
        argument(wire != other && fits(place, period, duration));
        state(faults.size() < 10);
        faults.add(new int[] {1, wire, other, place, period, duration});
        return faults.size() - 1;
    }

    private boolean fits(int place, int period, int duration) {
        return within(place, 1, length - 1) && within(period, 1, 32) && within(duration, 1, period);
    }

    int repair(int fault) {
        index(fault, faults.size());
        faults.remove(fault);
        return faults.size();
    }

    int plug(int number) {
        argument(within(number, 0, 99));
        int previous = unit;
        unit = number;
        return previous;
    }

    int pass(int ticks) {
        argument(within(ticks, 1, 100));
        state(tick + ticks <= 100000);
        for (int i = 0; i < ticks; i++) {
            tick++;
            records.add(wrong(nets(tick)));
            if (records.size() > 64) {
                records.remove(0);
            }
        }
        return tick;
    }

    // ---- texts

    int append(int code) {
        argument(within(code, 33, 126));
        state(buffer.length() < 50);
        buffer = buffer + (char) code;
        return buffer.length();
    }

    int clearBuffer() {
        int previous = buffer.length();
        buffer = "";
        return previous;
    }

    int firstError() {
        for (int i = 1; i <= buffer.length(); i++) {
            Matcher matcher = TEXT.matcher(buffer.substring(0, i));
            if (!matcher.matches() && !matcher.hitEnd()) {
                return i - 1;
            }
        }
        return buffer.length();
    }

    int load() {
        argument(TEXT.matcher(buffer).matches());
        String[] items = buffer.split(";");
        int added = 0;
        for (String item : items) {
            if (item.contains("@")) {
                added++;
                state(Integer.parseInt(item.split("[@/]")[1]) < length);
            }
        }
        state(faults.size() + added <= 10);
        for (String item : items) {
            carryOut(item);
        }
        buffer = "";
        return items.length;
    }

    private void carryOut(String item) {
        char letter = item.charAt(0);
        String[] parts = item.substring(1).split("[@/:]");
        int first = parts[0].charAt(0) - '0';
        int second = parts[0].length() > 1 ? parts[0].charAt(1) - '0' : -1;
        if (letter == 'n' || letter == 'f') {
            exchange(letter == 'n' ? 0 : 1, first, second);
            return;
        }
        int place = Integer.parseInt(parts[1]);
        int period = parts.length > 2 ? Integer.parseInt(parts[2]) : 1;
        int duration = parts.length > 2 ? Integer.parseInt(parts[3]) : 1;
        if (letter == 'c') {
            cut(first, place, period, duration);
        } else {
            connect(first, second, place, period, duration);
        }
    }

    private static String textExpression() {
        List<String> two = new ArrayList<>();
        for (int i = 0; i < 8; i++) {
            two.add(i + "[" + "01234567".replace("" + i, "") + "]");
        }
        List<String> timings = new ArrayList<>();
        for (int period = 1; period <= 32; period++) {
            List<String> durations = new ArrayList<>();
            for (int duration = 1; duration <= period; duration++) {
                durations.add("" + duration);
            }
            timings.add(period + ":" + either(durations));
        }
        String place = "(?:[1-9][0-9]?|[1-8][0-9][0-9]|9[0-8][0-9]|99[0-8])";
        String rest = "@" + place + "(?:/" + either(timings) + ")?";
        String pair = either(two);
        String item = "(?:c[0-7]" + rest + "|s" + pair + rest + "|n" + pair + "|f" + pair + ")";
        return item + "(?:;" + item + ")*";
    }

    private static String either(List<String> choices) {
        return "(?:" + String.join("|", choices) + ")";
    }

    // ---- what is joined

    private boolean present(int[] fault, int when) {
        return when % fault[4] < fault[5];
    }

    /** For each pin (0 to 7 near, 8 to 15 far) the number of its net. */
    private int[] nets(int when) {
        int[] net = new int[16];
        Arrays.fill(net, -1);
        int next = 0;
        for (int i = 0; i < 16; i++) {
            if (net[i] < 0) {
                boolean[][] reached = new boolean[8][2 * length + 2];
                reach(reached, wires[i / 8][i % 8], i < 8 ? 0 : 2 * length, when);
                for (int j = 0; j < 16; j++) {
                    if (reached[wires[j / 8][j % 8]][j < 8 ? 0 : 2 * length]) {
                        net[j] = next;
                    }
                }
                next++;
            }
        }
        return net;
    }

    /** The point 2 x of a wire is on the near side of the place x, the point 2 x + 1 on the far side. */
    private void reach(boolean[][] reached, int startWire, int startPoint, int when) {
        List<int[]> open = new ArrayList<>();
        open.add(new int[] {startWire, startPoint});
        while (!open.isEmpty()) {
            int[] at = open.remove(open.size() - 1);
            int wire = at[0];
            int point = at[1];
            if (point < 0 || point > 2 * length || reached[wire][point]) {
                continue;
            }
            reached[wire][point] = true;
            if (!isCut(wire, point, point + 1, when)) {
                open.add(new int[] {wire, point + 1});
            }
            if (!isCut(wire, point - 1, point, when)) {
                open.add(new int[] {wire, point - 1});
            }
            for (int[] fault : faults) {
                if (fault[0] == 1 && present(fault, when) && 2 * fault[3] == point) {
                    if (fault[1] == wire) {
                        open.add(new int[] {fault[2], point});
                    }
                    if (fault[2] == wire) {
                        open.add(new int[] {fault[1], point});
                    }
                }
            }
        }
    }

    private boolean isCut(int wire, int from, int to, int when) {
        for (int[] fault : faults) {
            boolean between = from == 2 * fault[3] && to == from + 1;
            if (fault[0] == 0 && fault[1] == wire && between && present(fault, when)) {
                return true;
            }
        }
        return false;
    }

    private static int mask(int[] net, int end, int pin, int to) {
        int mask = 0;
        for (int other = 0; other < 8; other++) {
            boolean itself = end == to && pin == other;
            if (!itself && net[8 * end + pin] == net[8 * to + other]) {
                mask |= 1 << other;
            }
        }
        return mask;
    }

    private static int statusIn(int[] net, int pin) {
        int far = mask(net, 0, pin, 1);
        if (mask(net, 0, pin, 0) != 0 || Integer.bitCount(far) >= 2) {
            return 3;
        }
        return far == 0 ? 1 : far != 1 << pin ? 2 : 0;
    }

    private static boolean[] wrong(int[] net) {
        boolean[] wrong = new boolean[8];
        for (int pin = 0; pin < 8; pin++) {
            wrong[pin] = statusIn(net, pin) != 0;
        }
        return wrong;
    }

    // ---- what is measured

    int joined(int end, int pin, int to) {
        argument(within(end, 0, 1) && within(to, 0, 1));
        index(pin, 8);
        return mask(nets(tick), end, pin, to);
    }

    int status(int pin) {
        index(pin, 8);
        return statusIn(nets(tick), pin);
    }

    int echo(int pin, int what) {
        index(pin, 8);
        argument(within(what, 0, 3));
        int wire = wires[0][pin];
        for (int place = 1; place < length; place++) {
            for (int kind = 1; kind >= 0; kind--) {
                for (int[] fault : faults) {
                    boolean touches = fault[1] == wire || fault[2] == wire;
                    if (fault[0] == kind && fault[3] == place && touches && present(fault, tick)) {
                        return echoFrom(place, kind, what);
                    }
                }
            }
        }
        return unit == 0 ? echoFrom(length, 0, what) : -1;
    }

    private int echoFrom(int place, int kind, int what) {
        int time = divided(200 * place, 3 * velocity);
        return what == 0 ? kind : what == 1 ? time : what == 2 ? divided(3 * velocity * time, 200) : place;
    }

    private static int divided(int dividend, int divisor) {
        return new BigDecimal(dividend).divide(new BigDecimal(divisor), 0, RoundingMode.HALF_UP).intValueExact();
    }

    int crosstalk(int pair, int other) {
        index(pair, 4);
        index(other, 4);
        int number = 0;
        for (int k = 0; k < 4 && pair != other; k++) {
            if (attached(pair, 2 * k) && attached(other, 2 * k + 1)
                || attached(other, 2 * k) && attached(pair, 2 * k + 1)) {
                number++;
            }
        }
        return number;
    }

    private boolean attached(int pair, int wire) {
        return wires[0][2 * pair] == wire || wires[0][2 * pair + 1] == wire;
    }

    private boolean split(int pair) {
        return (wires[0][2 * pair] ^ 1) != wires[0][2 * pair + 1];
    }

    int identify() {
        int[] net = nets(tick);
        for (int pair = 0; pair < 4; pair++) {
            if (!split(pair) && statusIn(net, 2 * pair) == 0 && statusIn(net, 2 * pair + 1) == 0 && unit != 0) {
                return unit;
            }
        }
        return -1;
    }

    // ---- statistics

    int records(int pin, int what) {
        index(pin, 8);
        argument(within(what, 0, 4));
        int size = records.size();
        int times = 0;
        int row = 0;
        int longest = 0;
        int changes = 0;
        for (int i = 0; i < size; i++) {
            boolean wrong = records.get(i)[pin];
            times += wrong ? 1 : 0;
            row = wrong ? row + 1 : 0;
            longest = Math.max(longest, row);
            changes += i > 0 && records.get(i - 1)[pin] != wrong ? 1 : 0;
        }
        return what == 0 ? size : what == 1 ? times : what == 2 ? longest : what == 3 ? changes : period(pin);
    }

    private int period(int pin) {
        for (int p = 1; p <= 32; p++) {
            boolean same = records.size() >= 2 * p;
            for (int i = 0; i + p < records.size(); i++) {
                same &= records.get(i)[pin] == records.get(i + p)[pin];
            }
            if (same) {
                return p;
            }
        }
        return -1;
    }

    int suspect() {
        int worst = -1;
        for (int pin = 7; pin >= 0; pin--) {
            if (records(pin, 1) > 0 && (worst < 0 || records(pin, 1) >= records(worst, 1))) {
                worst = pin;
            }
        }
        return worst;
    }

    int nextChange() {
        boolean[] now = wrong(nets(tick));
        for (int ahead = 1; ahead <= 100; ahead++) {
            if (!Arrays.equals(now, wrong(nets(tick + ahead)))) {
                return ahead;
            }
        }
        return -1;
    }

    double wrongShare() {
        double times = 0;
        for (int pin = 0; pin < 8; pin++) {
            times += records(pin, 1);
        }
        return records.isEmpty() ? 0.0 : times / (8.0 * records.size());
    }

    // ---- explanations

    private static int[][] permutations() {
        List<int[]> all = new ArrayList<>();
        extend(new int[8], 0, all);
        return all.toArray(new int[0][]);
    }

    private static void extend(int[] begun, int size, List<int[]> all) {
        if (size == 8) {
            all.add(begun.clone());
            return;
        }
        for (int next = 0; next < 8; next++) {
            boolean used = false;
            for (int i = 0; i < size; i++) {
                used |= begun[i] == next;
            }
            if (!used) {
                begun[size] = next;
                extend(begun, size + 1, all);
            }
        }
    }

    private static int cutsOf(int[] permutation, int[] net) {
        int cuts = 0;
        for (int pin = 0; pin < 8; pin++) {
            cuts += net[pin] != net[8 + permutation[pin]] ? 1 : 0;
        }
        return cuts;
    }

    private static int exchangesOf(int[] permutation) {
        int cycles = 0;
        boolean[] seen = new boolean[8];
        for (int pin = 0; pin < 8; pin++) {
            cycles += seen[pin] ? 0 : 1;
            for (int at = pin; !seen[at]; at = permutation[at]) {
                seen[at] = true;
            }
        }
        return 8 - cycles;
    }

    private static int[] best(int[] net) {
        int[] best = null;
        int least = Integer.MAX_VALUE;
        for (int[] permutation : PERMUTATIONS) {
            int cuts = cutsOf(permutation, net);
            if (100 * cuts < least) {
                int cost = 100 * cuts + exchangesOf(permutation);
                if (cost < least) {
                    least = cost;
                    best = permutation;
                }
            }
        }
        return best;
    }

    int explain(int what) {
        argument(within(what, 0, 4));
        int[] net = nets(tick);
        return explainWith(net, best(net), what);
    }

    private int explainWith(int[] net, int[] best, int what) {
        int shorts = 0;
        for (int number = 0; number < 16; number++) {
            int near = 0;
            int far = 0;
            for (int pin = 0; pin < 8; pin++) {
                near += net[pin] == number ? 1 : 0;
                far += net[8 + pin] == number ? 1 : 0;
            }
            shorts += Math.max(Math.max(near, far) - 1, 0);
        }
        int[] numbers = {cutsOf(best, net), shorts, exchangesOf(best), splits()};
        return what < 4 ? numbers[what] : numbers[0] + numbers[1] + numbers[2] + numbers[3];
    }

    private int splits() {
        boolean[] seen = new boolean[4];
        int splits = 0;
        for (int pair = 0; pair < 4; pair++) {
            if (!seen[pair]) {
                splits += linked(pair, seen) - 1;
            }
        }
        return splits;
    }

    private int linked(int pair, boolean[] seen) {
        seen[pair] = true;
        int size = 1;
        for (int other = 0; other < 4; other++) {
            if (!seen[other] && crosstalk(pair, other) != 0) {
                size += linked(other, seen);
            }
        }
        return size;
    }

    int explained(int pin) {
        index(pin, 8);
        return best(nets(tick))[pin];
    }

    // ---- what there is

    int count(int what) {
        argument(within(what, 0, 8));
        int[] net = nets(tick);
        int number = 0;
        switch (what) {
            case 0: return length;
            case 1: return velocity;
            case 2: return unit;
            case 3: return tick;
            case 4: return faults.size();
            case 5:
                for (int[] fault : faults) {
                    number += present(fault, tick) ? 1 : 0;
                }
                return number;
            case 6: return Arrays.stream(net).max().getAsInt() + 1;
            case 7:
                for (boolean wrong : wrong(net)) {
                    number += wrong ? 1 : 0;
                }
                return number;
            default:
                for (int pair = 0; pair < 4; pair++) {
                    number |= split(pair) ? 1 << pair : 0;
                }
                return number;
        }
    }

    int fault(int fault, int what) {
        index(fault, faults.size());
        argument(within(what, 0, 6));
        return what < 6 ? faults.get(fault)[what] : present(faults.get(fault), tick) ? 1 : 0;
    }

    int wire(int end, int pin) {
        argument(within(end, 0, 1));
        index(pin, 8);
        return wires[end][pin];
    }

    long digest() {
        List<Integer> values = new ArrayList<>();
        for (int what = 0; what <= 8; what++) {
            values.add(count(what));
        }
        for (int fault = 0; fault < faults.size(); fault++) {
            for (int what = 0; what <= 6; what++) {
                values.add(fault(fault, what));
            }
        }
        int[] net = nets(tick);
        int[] best = best(net);
        for (int pin = 0; pin < 8; pin++) {
            values.addAll(List.of(wire(0, pin), wire(1, pin)));
            values.addAll(List.of(mask(net, 0, pin, 0), mask(net, 0, pin, 1), mask(net, 1, pin, 1)));
            values.add(statusIn(net, pin));
            for (int what = 0; what <= 3; what++) {
                values.add(echo(pin, what));
            }
            for (int what = 0; what <= 4; what++) {
                values.add(records(pin, what));
            }
            values.add(best[pin]);
        }
        for (int p = 0; p < 4; p++) {
            for (int q = p + 1; q < 4; q++) {
                values.add(crosstalk(p, q));
            }
        }
        values.add(identify());
        values.add(suspect());
        for (int what = 0; what <= 4; what++) {
            values.add(explainWith(net, best, what));
        }
        values.add(buffer.length());
        for (char sign : buffer.toCharArray()) {
            values.add((int) sign);
        }
        long hash = 2011;
        for (int value : values) {
            hash = 31 * hash + value;
        }
        return hash;
    }
}
