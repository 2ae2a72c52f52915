/** Counts the answers that are not as due; each test ends with finish. */
final class Check {
    interface Call {
        long answer();
    }

    /** A call on whatever object it is given. */
    interface Ask {
        long of(CableTester tester);
    }

    /** Makes objects that are all in the same state. */
    interface Maker {
        CableTester make();
    }

    static final Class<? extends RuntimeException> ARGUMENT = IllegalArgumentException.class;
    static final Class<? extends RuntimeException> INDEX = IndexOutOfBoundsException.class;
    static final Class<? extends RuntimeException> STATE = IllegalStateException.class;

    /** More than the kept records, so that each of them is seen to be the oldest one. */
    private static final int TICKS_AHEAD = 66;

    private static int right = 0;
    private static int wrong = 0;
    private static String sentence = "";
    private static int answersOfSentence = 1;

    private Check() {
    }

    /** The checks that follow test this sentence of the document; there must be at least one of them. */
    static void sentence(String words) {
        endSentence();
        sentence = words;
        answersOfSentence = 0;
    }

    static void due(String what, long got, long want) {
        note(got == want, what + " answered " + got + ", due is " + want);
    }

    static void due(String what, double got, double want) {
        note(got == want, what + " answered " + got + ", due is " + want);
    }

    static void dueText(String what, String got, String want) {
        note(got.equals(want), what + " answered " + got + ", due is " + want);
    }

    static void dueTrue(String what, boolean fine) {
        note(fine, what + " is not so");
    }

    /** The call must throw just this class, by a throw of its own, and leave an object as if it had not been made. */
    static void dueRefusal(Maker maker, Class<? extends RuntimeException> kind, String what, Ask call) {
        CableTester asked = maker.make();
        CableTester spared = maker.make();
        String got = refusal(kind, () -> call.of(asked));
        note(got.isEmpty(), what + " " + got + ", due is a throw of " + kind.getName());
        note(future(asked).equals(future(spared)), what + " throws and changes something");
    }

    /** Both objects must answer alike, now and in what comes. Both are used up by it. */
    static void dueAlike(String what, CableTester one, CableTester other) {
        dueText(what, future(one), future(other));
    }

    /** Empty if the call throws just this class, by a throw of its own. */
    private static String refusal(Class<? extends RuntimeException> kind, Call call) {
        try {
            return "answered " + call.answer();
        } catch (RuntimeException e) {
            boolean own = isThrownBy(e, "CableTester");
            return e.getClass() == kind && own ? "" : "threw " + e.getClass().getName() + (own ? "" : " from outside");
        }
    }

    /**
     * What the object answers from now on. The hash alone does not tell the order of the records: they show
     * themselves while ticks pass and the old ones are dropped.
     */
    private static String future(CableTester tester) {
        StringBuilder answers = new StringBuilder();
        answers.append(tester.digest()).append(' ').append(tester.wrongShare());
        answers.append(' ').append(tester.nextChange()).append(' ').append(tester.firstError());
        for (int i = 0; i < TICKS_AHEAD; i++) {
            answers.append(' ').append(outcome(() -> tester.pass(1))).append(' ').append(tester.digest());
        }
        answers.append(' ').append(outcome(tester::load)).append(' ').append(tester.digest());
        answers.append(' ').append(tester.clearBuffer()).append(' ').append(tester.digest());
        answers.append(' ').append(outcome(() -> tester.connect(0, 7, 1, 2, 1))).append(' ').append(tester.digest());
        return answers.toString();
    }

    static String outcome(Call call) {
        try {
            return "" + call.answer();
        } catch (RuntimeException e) {
            return e.getClass().getName() + (isThrownBy(e, "CableTester") ? "" : " from outside");
        }
    }

    /** What the library throws is never due. */
    static boolean isThrownBy(RuntimeException e, String className) {
        StackTraceElement[] trace = e.getStackTrace();
        return trace.length > 0 && trace[0].getClassName().equals(className);
    }

    static void type(CableTester tester, String text) {
        for (int i = 0; i < text.length(); i++) {
            tester.append(text.charAt(i));
        }
    }

    /** A new object with this text in its buffer. */
    static CableTester typed(String text) {
        CableTester tester = new CableTester();
        type(tester, text);
        return tester;
    }

    static void finish() {
        endSentence();
        System.out.println(right + " answers as due, " + wrong + " not");
        if (wrong != 0 || right == 0) {
            System.exit(1);
        }
    }

    private static void endSentence() {
        if (answersOfSentence == 0) {
            note(false, "nothing was tested");
        }
    }

    private static void note(boolean asDue, String otherwise) {
        answersOfSentence++;
        if (asDue) {
            right++;
        } else {
            wrong++;
            System.out.println(sentence.isEmpty() ? otherwise : "\"" + sentence + "\": " + otherwise);
        }
    }
}
