import java.util.Random;

/** Long runs of calls, drawn from fixed seeds, on the class and on the model; both must answer and throw alike. */
public final class ModelTest {
    private static final int RUNS = 400;
    private static final int CALLS = 120;
    /** Each tenth run is as long as an object may be used; a step makes one call or more. */
    private static final int MOST_CALLS = 512;

    private final Random random;
    private final CableTester tester = new CableTester();
    private final Model model = new Model();
    private final StringBuilder log = new StringBuilder();
    /** How often, of 100 times, an argument may be out of its range. */
    private final int wildness;
    private final int longest;
    private int length = 100;

    private ModelTest(int seed) {
        random = new Random(seed);
        wildness = random.nextInt(3) == 0 ? 20 : 3;
        longest = random.nextInt(8) == 0 ? 999 : 12;
    }

    public static void main(String[] args) {
        for (int run = 0; run < RUNS; run++) {
            new ModelTest(run).run(run);
        }
        Check.finish();
    }

    private void run(int run) {
        int calls = run % 10 == 0 ? MOST_CALLS : CALLS;
        for (int i = 0; i < calls; i++) {
            step();
            if (random.nextInt(12) == 0) {
                both("digest()", tester::digest, model::digest);
            }
        }
        both("digest()", tester::digest, model::digest);
        Check.due("wrongShare() in run " + run, tester.wrongShare(), model.wrongShare());
    }

    private void both(String name, Check.Call mine, Check.Call due) {
        log.append(' ').append(name);
        String got = outcome(mine, "CableTester");
        String want = outcome(due, "Model");
        Check.dueText(got.equals(want) ? name : log.toString(), got, want);
    }

    private static String outcome(Check.Call call, String thrower) {
        try {
            return "" + call.answer();
        } catch (IllegalArgumentException | IndexOutOfBoundsException | IllegalStateException e) {
            return e.getClass().getName() + (Check.isThrownBy(e, thrower) ? "" : " from outside");
        }
    }

    private int some(int least, int most) {
        if (random.nextInt(100) < wildness) {
            int[] odd = {least - 1, most + 1, -1, Integer.MIN_VALUE, Integer.MAX_VALUE, most + 2};
            return odd[random.nextInt(odd.length)];
        }
        return most < least ? least : least + random.nextInt(most - least + 1);
    }

    private void step() {
        int kind = random.nextInt(100);
        if (kind < 40) {
            change();
        } else if (kind < 55) {
            text();
        } else {
            ask();
        }
    }

    private void change() {
        int kind = random.nextInt(20);
        int period = random.nextInt(3) == 0 ? 1 : some(1, random.nextBoolean() ? 6 : 32);
        int duration = some(1, Math.min(period, 32));
        int place = some(1, length - 1);
        int a = some(0, 7);
        int b = random.nextInt(20) == 0 ? a : some(0, 7);
        int end = some(0, 1);
        if (kind < 1) {
            int next = some(2, longest);
            int velocity = some(50, 99);
            both("begin(" + next + "," + velocity + ")", () -> tester.begin(next, velocity),
                () -> model.begin(next, velocity));
            length = tester.count(0);
        } else if (kind < 5) {
            both("exchange(" + end + "," + a + "," + b + ")", () -> tester.exchange(end, a, b),
                () -> model.exchange(end, a, b));
        } else if (kind < 9) {
            both("cut(" + a + "," + place + "," + period + "," + duration + ")",
                () -> tester.cut(a, place, period, duration), () -> model.cut(a, place, period, duration));
        } else if (kind < 13) {
            both("connect(" + a + "," + b + "," + place + "," + period + "," + duration + ")",
                () -> tester.connect(a, b, place, period, duration),
                () -> model.connect(a, b, place, period, duration));
        } else if (kind < 15) {
            int fault = some(0, tester.count(4) - 1);
            both("repair(" + fault + ")", () -> tester.repair(fault), () -> model.repair(fault));
        } else if (kind < 16) {
            int number = some(0, 99);
            both("plug(" + number + ")", () -> tester.plug(number), () -> model.plug(number));
        } else {
            int ticks = some(1, random.nextInt(5) == 0 && length < 100 ? 100 : 9);
            both("pass(" + ticks + ")", () -> tester.pass(ticks), () -> model.pass(ticks));
        }
    }

    private void text() {
        int kind = random.nextInt(10);
        if (kind < 1) {
            both("clearBuffer()", tester::clearBuffer, model::clearBuffer);
        } else if (kind < 4) {
            both("load()", tester::load, model::load);
        } else if (kind < 5) {
            int code = some(33, 126);
            both("append(" + code + ")", () -> tester.append(code), () -> model.append(code));
        } else {
            String written = writtenText();
            for (int i = 0; i < written.length(); i++) {
                int code = written.charAt(i);
                both("append(" + code + ")", () -> tester.append(code), () -> model.append(code));
            }
            both("firstError()", tester::firstError, model::firstError);
            if (random.nextBoolean()) {
                both("load()", tester::load, model::load);
                both("clearBuffer()", tester::clearBuffer, model::clearBuffer);
            }
        }
    }

    /** Mostly a text, sometimes with a character that was changed, lost or doubled. */
    private String writtenText() {
        StringBuilder text = new StringBuilder();
        int items = 1 + random.nextInt(3);
        for (int i = 0; i < items; i++) {
            text.append(i > 0 ? ";" : "").append(writtenItem());
        }
        if (random.nextInt(3) == 0) {
            int at = random.nextInt(text.length());
            String signs = "cnsf0123456789@/:;;!";
            switch (random.nextInt(4)) {
                case 0: text.deleteCharAt(at); break;
                case 1: text.insert(at, text.charAt(at)); break;
                case 2: text.setLength(at); break;
                default: text.setCharAt(at, signs.charAt(random.nextInt(signs.length())));
            }
        }
        return text.toString();
    }

    private String writtenItem() {
        int a = random.nextInt(8);
        int b = random.nextInt(30) == 0 ? a : (a + 1 + random.nextInt(7)) % 8;
        int place = random.nextInt(10) == 0 ? random.nextInt(1010) : 1 + random.nextInt(length - 1);
        String rest = "@" + place;
        if (random.nextBoolean()) {
            int period = random.nextInt(34);
            rest += "/" + period + ":" + (random.nextInt(10) == 0 ? period + 1 : 1 + random.nextInt(period + 1));
        }
        switch (random.nextInt(4)) {
            case 0: return "c" + a + rest;
            case 1: return "s" + a + b + rest;
            case 2: return "n" + a + b;
            default: return "f" + a + b;
        }
    }

    private void ask() {
        int pin = some(0, 7);
        int end = some(0, 1);
        int to = some(0, 1);
        switch (random.nextInt(13)) {
            case 0:
                both("joined(" + end + "," + pin + "," + to + ")", () -> tester.joined(end, pin, to),
                    () -> model.joined(end, pin, to));
                break;
            case 1: both("status(" + pin + ")", () -> tester.status(pin), () -> model.status(pin)); break;
            case 2: {
                int what = some(0, 3);
                both("echo(" + pin + "," + what + ")", () -> tester.echo(pin, what), () -> model.echo(pin, what));
                break;
            }
            case 3: {
                int p = some(0, 3);
                int q = some(0, 3);
                both("crosstalk(" + p + "," + q + ")", () -> tester.crosstalk(p, q), () -> model.crosstalk(p, q));
                break;
            }
            case 4: both("identify()", tester::identify, model::identify); break;
            case 5: {
                int what = some(0, 4);
                both("records(" + pin + "," + what + ")", () -> tester.records(pin, what),
                    () -> model.records(pin, what));
                break;
            }
            case 6: both("suspect()", tester::suspect, model::suspect); break;
            case 7:
                if (length < 100) {
                    both("nextChange()", tester::nextChange, model::nextChange);
                }
                break;
            case 8: {
                int what = some(0, 4);
                both("explain(" + what + ")", () -> tester.explain(what), () -> model.explain(what));
                break;
            }
            case 9: both("explained(" + pin + ")", () -> tester.explained(pin), () -> model.explained(pin)); break;
            case 10: {
                int what = some(0, 8);
                both("count(" + what + ")", () -> tester.count(what), () -> model.count(what));
                break;
            }
            case 11: {
                int fault = some(0, 9);
                int what = some(0, 6);
                both("fault(" + fault + "," + what + ")", () -> tester.fault(fault, what),
                    () -> model.fault(fault, what));
                break;
            }
            default: both("wire(" + end + "," + pin + ")", () -> tester.wire(end, pin), () -> model.wire(end, pin));
        }
    }
}
