/** Counts what is not as due; each test ends with end(). */
final class Check {
    /** A call that may throw. */
    interface Call {
        void make();
    }

    private static int made = 0;
    private static int wrong = 0;

    private Check() {
    }

    static void due(String what, long want, long got) {
        made++;
        if (want != got) {
            wrong++;
            System.out.println(what + " answered " + got + ", due is " + want);
        }
    }

    static void holds(String what, boolean holds) {
        made++;
        if (!holds) {
            wrong++;
            System.out.println(what + " does not hold");
        }
    }

    static void illegal(String what, Call call) {
        throwsExactly(what, IllegalArgumentException.class, call);
    }

    static void outOfBounds(String what, Call call) {
        throwsExactly(what, IndexOutOfBoundsException.class, call);
    }

    private static void throwsExactly(String what, Class<?> due, Call call) {
        made++;
        Class<?> got = null;
        try {
            call.make();
        } catch (RuntimeException e) {
            got = e.getClass();
        }
        if (got != due) {
            wrong++;
            System.out.println(what + " threw " + got + ", due is " + due);
        }
    }

    /** A label and a number as register(), memory() and output() answer them. */
    static long pair(int number, int label) {
        return label * 4294967296L + Integer.toUnsignedLong(number);
    }

    static void end() {
        System.out.println(made + " checks, " + wrong + " wrong");
        if (wrong != 0) {
            System.exit(1);
        }
    }
}
