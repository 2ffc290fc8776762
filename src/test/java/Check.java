/** Counts the answers of a test that are not the ones that are due. */
final class Check {
    private static int checked = 0;
    private static int wrong = 0;

    private Check() {
    }

    interface Call {
        void make();
    }

    static void same(String what, long got, long due) {
        checked++;
        if (got != due) {
            wrong++;
            System.out.println(what + " answered " + got + ", due is " + due);
        }
    }

    static void same(String what, boolean got, boolean due) {
        same(what, got ? 1 : 0, due ? 1 : 0);
    }

    static void outOfBounds(String what, Call call) {
        throwsJust(what, IndexOutOfBoundsException.class, call);
    }

    static void badArgument(String what, Call call) {
        throwsJust(what, IllegalArgumentException.class, call);
    }

    static void badState(String what, Call call) {
        throwsJust(what, IllegalStateException.class, call);
    }

    /** The very class is asked for: the machine's own exceptions are often classes below it. */
    static void throwsJust(String what, Class<? extends RuntimeException> due, Call call) {
        Class<?> got = null;
        try {
            call.make();
        } catch (RuntimeException e) {
            got = e.getClass();
        }
        checked++;
        if (got != due) {
            wrong++;
            System.out.println(what + " threw " + (got == null ? "nothing" : got.getName())
                    + ", due is " + due.getName());
        }
    }

    static void wrongBecause(String what) {
        checked++;
        wrong++;
        System.out.println(what);
    }

    /** Ends the test; a test that checked nothing has failed, too. */
    static void end() {
        System.out.println(checked + " answers looked at, " + wrong + " wrong");
        if (wrong > 0 || checked == 0) {
            System.exit(1);
        }
    }
}
