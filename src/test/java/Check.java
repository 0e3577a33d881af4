/** Counts and prints the answers that are not as due. */
final class Check {
    private static int wrong = 0;
    private static int checks = 0;

    private Check() {
    }

    /** A call that may throw. */
    interface Call {
        void run();
    }

    static void due(String what, Object got, Object want) {
        checks++;
        if (!got.equals(want)) {
            fail(what + " answered " + got + ", due is " + want);
        }
    }

    /** The call throws an exception of just this class. */
    static void dueThrow(String what, Class<? extends RuntimeException> want, Call call) {
        checks++;
        String got = thrownBy(call);
        if (!got.equals(want.getSimpleName())) {
            fail(what + " threw " + got + ", due is " + want.getSimpleName());
        }
    }

    static void dueIndex(String what, Call call) {
        dueThrow(what, IndexOutOfBoundsException.class, call);
    }

    static void dueArgument(String what, Call call) {
        dueThrow(what, IllegalArgumentException.class, call);
    }

    static void dueState(String what, Call call) {
        dueThrow(what, IllegalStateException.class, call);
    }

    private static String thrownBy(Call call) {
        try {
            call.run();
            return "nothing";
        } catch (RuntimeException e) {
            return e.getClass().getSimpleName();
        }
    }

    private static void fail(String line) {
        wrong++;
        if (wrong <= 50) {
            System.out.println(line);
        }
    }

    /** To be called last: ends with exit code 1 if an answer was wrong, or if none was looked at. */
    static void end() {
        if (wrong != 0 || checks == 0) {
            System.out.println(wrong + " of " + checks + " answers are not as due");
            System.exit(1);
        }
    }
}
