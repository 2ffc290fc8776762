import java.util.function.IntSupplier;

/** Counts the answers of a test that are not the ones that are due. */
final class Check {
    private static int checked = 0;
    private static int wrong = 0;
    private static String reason = "";

    private Check() {
    }

    interface Call {
        void make();
    }

    /** Which words of the document the checks behind this are for. */
    static void stateReason(String words) {
        reason = words;
    }

    static void same(String what, long got, long due) {
        checked++;
        if (got != due) {
            report(what + " answered " + got + ", due is " + due);
        }
    }

    static void same(String what, boolean got, boolean due) {
        same(what, got ? 1 : 0, due ? 1 : 0);
    }

    static void outOfBounds(String what, Call call) {
        throwsJust(what, IndexOutOfBoundsException.class, call);
    }

    static void badArgument(String what, Call call) {
        throwsJust(what, IllegalArgumentException.class, call);
    }

    static void badState(String what, Call call) {
        throwsJust(what, IllegalStateException.class, call);
    }

    /** The very class is asked for: the machine's own exceptions are often classes below it. */
    static void throwsJust(String what, Class<? extends RuntimeException> due, Call call) {
        Class<?> got = null;
        try {
            call.make();
        } catch (RuntimeException e) {
            got = e.getClass();
        }
        checked++;
        if (got != due) {
            report(what + " threw " + (got == null ? "nothing" : got.getName()) + ", due is " + due.getName());
        }
    }

    /** The answer of a call, or the name of what it throws. */
    static String textOf(IntSupplier call) {
        try {
            return String.valueOf(call.getAsInt());
        } catch (RuntimeException e) {
            return e.getClass().getName();
        }
    }

    static void wrongBecause(String what) {
        checked++;
        report(what);
    }

    private static void report(String what) {
        wrong++;
        System.out.println(reason.isEmpty() ? what : what + " [" + reason + "]");
    }

    /** Ends the test; a test that checked nothing has failed, too. */
    static void end() {
        System.out.println(checked + " answers looked at, " + wrong + " wrong");
        if (wrong > 0 || checked == 0) {
            System.exit(1);
        }
    }
}
