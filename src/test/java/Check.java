/** Counts answers that are not due, so that a test can end with exit code 1. */
final class Check {
    /** A call of the face, with its answer as a number (a boolean counts 1 or 0). */
    interface Call {
        long answer();
    }

    private static int made = 0;
    private static int wrong = 0;

    private Check() {
    }

    static void due(String what, long got, long want) {
        made++;
        if (got != want) {
            fault(what + " answered " + got + ", due is " + want);
        }
    }

    static void due(String what, boolean got, boolean want) {
        due(what, got ? 1 : 0, want ? 1 : 0);
    }

    static void noIndex(String what, Call call) {
        thrown(what, IndexOutOfBoundsException.class, call);
    }

    static void noArgument(String what, Call call) {
        thrown(what, IllegalArgumentException.class, call);
    }

    static void noState(String what, Call call) {
        thrown(what, IllegalStateException.class, call);
    }

    private static void thrown(String what, Class<?> kind, Call call) {
        made++;
        try {
            long answer = call.answer();
            fault(what + " answered " + answer + ", due is throws." + kind.getSimpleName());
        } catch (RuntimeException e) {
            if (e.getClass() != kind || !isThrownByTheClass(e)) {
                fault(what + " threw " + e + ", due is throws." + kind.getSimpleName());
            }
        }
    }

    /** What the machine or the library throws by itself has another class or another top frame. */
    static boolean isThrownByTheClass(RuntimeException e) {
        StackTraceElement[] frames = e.getStackTrace();
        return frames.length > 0 && frames[0].getClassName().startsWith("CamWright");
    }

    static void fault(String text) {
        wrong++;
        if (wrong <= 40) {
            System.out.println("WRONG: " + text);
        }
    }

    static void finish(String name) {
        System.out.println(name + ": " + made + " checks, " + wrong + " wrong");
        if (wrong != 0) {
            System.exit(1);
        }
    }
}
