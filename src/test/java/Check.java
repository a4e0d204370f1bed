/** Counts answers that are not as due, prints them, and ends the program with 1 if there were any. */
final class Check {
    interface Call {
        void run();
    }

    private static int checked = 0;
    private static int wrong = 0;

    private Check() {}

    static void equal(String what, long due, long got) {
        that(what + " answered " + got + ", due is " + due, due == got);
    }

    static void that(String complaint, boolean holds) {
        checked++;
        if (!holds) {
            wrong++;
            System.out.println(complaint);
        }
    }

    /** The call throws the very class, not one below it. */
    static void throwing(String what, Class<? extends RuntimeException> due, Call call) {
        Class<?> got = null;
        try {
            call.run();
        } catch (RuntimeException e) {
            got = e.getClass();
        }
        that(what + " threw " + got + ", due is " + due, due.equals(got));
    }

    static void end() {
        System.out.println(checked + " checks, " + wrong + " wrong");
        if (wrong != 0) {
            System.exit(1);
        }
    }
}
