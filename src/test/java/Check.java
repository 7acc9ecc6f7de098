/** Counts answers that are not due, so that a test can end with exit code 1. */
final class Check {
    /** A call of the face, with its answer as a number (a boolean counts 1 or 0). */
    interface Call {
        long answer();
    }

    /** A call of the face with one argument left open. */
    interface CallOf {
        long answer(int value);
    }

    private static int made = 0;
    private static int wrong = 0;

    private Check() {
    }

    static void due(String what, long got, long want) {
        made++;
        if (got != want) {
            fault(what + " answered " + got + ", due is " + want);
        }
    }

    static void due(String what, boolean got, boolean want) {
        due(what, got ? 1 : 0, want ? 1 : 0);
    }

    static void noIndex(String what, Call call) {
        thrown(what, IndexOutOfBoundsException.class, call);
    }

    static void noArgument(String what, Call call) {
        thrown(what, IllegalArgumentException.class, call);
    }

    static void noState(String what, Call call) {
        thrown(what, IllegalStateException.class, call);
    }

    /** A call that throws one of the document's exceptions; which one is told by other tests. */
    static void refused(String what, Call call) {
        made++;
        try {
            fault(what + " answered " + call.answer() + ", due is an exception");
        } catch (RuntimeException e) {
            if (!isThrownByTheClass(e)) {
                fault(what + " threw " + e);
            }
        }
    }

    /** What stands just outside of a range, and far outside of it, is no such thing. */
    static void noIndexOutside(String what, int least, int greatest, CallOf call) {
        for (int value : outside(least, greatest)) {
            noIndex(what + " " + value, () -> call.answer(value));
        }
    }

    /** The same of another argument. */
    static void noArgumentOutside(String what, int least, int greatest, CallOf call) {
        for (int value : outside(least, greatest)) {
            noArgument(what + " " + value, () -> call.answer(value));
        }
    }

    private static int[] outside(int least, int greatest) {
        return new int[] {least - 1, greatest + 1, Integer.MIN_VALUE, Integer.MAX_VALUE};
    }

    private static void thrown(String what, Class<?> kind, Call call) {
        made++;
        try {
            long answer = call.answer();
            fault(what + " answered " + answer + ", due is throws." + kind.getSimpleName());
        } catch (RuntimeException e) {
            if (e.getClass() != kind || !isThrownByTheClass(e)) {
                fault(what + " threw " + e + ", due is throws." + kind.getSimpleName());
            }
        }
    }

    /** What the machine or the library throws by itself has another class or another top frame. */
    static boolean isThrownByTheClass(RuntimeException e) {
        StackTraceElement[] frames = e.getStackTrace();
        return frames.length > 0 && frames[0].getClassName().startsWith("CamWright");
    }

    static void fault(String text) {
        wrong++;
        if (wrong <= 40) {
            System.out.println("WRONG: " + text);
        }
    }

    static void finish(String name) {
        System.out.println(name + ": " + made + " checks, " + wrong + " wrong");
        if (wrong != 0) {
            System.exit(1);
        }
    }
}
