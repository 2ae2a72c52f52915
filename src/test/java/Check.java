/** Counts the answers that are not as due; each test ends with finish. */
final class Check {
    interface Call {
        long answer();
    }

    static final Class<? extends RuntimeException> ARGUMENT = IllegalArgumentException.class;
    static final Class<? extends RuntimeException> INDEX = IndexOutOfBoundsException.class;
    static final Class<? extends RuntimeException> STATE = IllegalStateException.class;

    private static int right = 0;
    private static int wrong = 0;

    private Check() {
    }

    static void due(String what, long got, long want) {
        note(got == want, what + " answered " + got + ", due is " + want);
    }

    static void due(String what, double got, double want) {
        note(got == want, what + " answered " + got + ", due is " + want);
    }

    static void dueText(String what, String got, String want) {
        note(got.equals(want), what + " answered " + got + ", due is " + want);
    }

    /** The call must throw just this class, by a throw of its own, and change nothing. */
    static void dueThrow(CableTester tester, Class<? extends RuntimeException> kind, String what, Call call) {
        long before = tester.digest();
        String got;
        try {
            got = "answered " + call.answer();
        } catch (RuntimeException e) {
            boolean own = isThrownBy(e, "CableTester");
            got = e.getClass() == kind && own ? "" : "threw " + e.getClass().getName() + (own ? "" : " from outside");
        }
        note(got.isEmpty(), what + " " + got + ", due is a throw of " + kind.getName());
        note(tester.digest() == before, what + " throws and changes something");
    }

    /** What the library throws is never due. */
    static boolean isThrownBy(RuntimeException e, String className) {
        StackTraceElement[] trace = e.getStackTrace();
        return trace.length > 0 && trace[0].getClassName().equals(className);
    }

    static void type(CableTester tester, String text) {
        for (int i = 0; i < text.length(); i++) {
            tester.append(text.charAt(i));
        }
    }

    static void finish() {
        System.out.println(right + " answers as due, " + wrong + " not");
        if (wrong != 0 || right == 0) {
            System.exit(1);
        }
    }

    private static void note(boolean asDue, String otherwise) {
        if (asDue) {
            right++;
        } else {
            wrong++;
            System.out.println(otherwise);
        }
    }
}
