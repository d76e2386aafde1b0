/** Counts and prints what is not as due; a test ends with exit code 1 if there was such a thing. */
final class Check {
    private static int wrong = 0;
    private static int done = 0;

    private Check() {}

    static void equal(String what, long got, long due) {
        done++;
        if (got != due) {
            wrong++;
            System.out.println(what + " answered " + got + ", due is " + due);
        }
    }

    static void holds(String what, boolean is) {
        done++;
        if (!is) {
            wrong++;
            System.out.println(what + " does not hold");
        }
    }

    static void bad(String what, Runnable call) {
        throwing(what, IllegalArgumentException.class, call);
    }

    static void illegal(String what, Runnable call) {
        throwing(what, IllegalStateException.class, call);
    }

    static void unsupported(String what, Runnable call) {
        throwing(what, UnsupportedOperationException.class, call);
    }

    private static void throwing(String what, Class<?> due, Runnable call) {
        done++;
        Class<?> got = null;
        try {
            call.run();
        } catch (RuntimeException e) {
            got = e.getClass();
        }
        if (got != due) {
            wrong++;
            System.out.println(what + " throws " + got + ", due is " + due);
        }
    }

    static void end() {
        if (wrong > 0 || done == 0) {
            System.out.println(wrong + " of " + done + " wrong");
            System.exit(1);
        }
    }
}
