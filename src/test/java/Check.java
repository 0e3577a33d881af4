/** Counts and prints the answers that are not as due. */
final class Check {
    private static int wrong = 0;
    private static int checks = 0;
    private static String sentence = "";
    /** The lines that were printed for this sentence, or outside of all sentences. */
    private static int lines = 0;

    private Check() {
    }

    /** A call that may throw. */
    interface Call {
        void run();
    }

    /**
     * The test of one sentence of the document: what fails in it is told with the sentence. A
     * sentence whose test looks at nothing, or that ends by an exception, fails too.
     */
    static void sentence(String words, Call test) {
        sentence = words;
        lines = 0;
        int before = checks;
        String thrown = thrownBy(test);
        if (!thrown.equals("nothing")) {
            fail("the test itself ended by " + thrown);
        }
        if (checks == before) {
            fail("nothing was looked at");
        }
        sentence = "";
        lines = 0;
    }

    static void due(String what, Object got, Object want) {
        checks++;
        if (!got.equals(want)) {
            fail(what + " answered " + got + ", due is " + want);
        }
    }

    /** The call throws an exception of just this class. */
    static void dueThrow(String what, Class<? extends RuntimeException> want, Call call) {
        checks++;
        String got = thrownBy(call);
        if (!got.equals(want.getSimpleName())) {
            fail(what + " threw " + got + ", due is " + want.getSimpleName());
        }
    }

    static void dueIndex(String what, Call call) {
        dueThrow(what, IndexOutOfBoundsException.class, call);
    }

    static void dueArgument(String what, Call call) {
        dueThrow(what, IllegalArgumentException.class, call);
    }

    static void dueState(String what, Call call) {
        dueThrow(what, IllegalStateException.class, call);
    }

    /** The call throws nothing. */
    static void dueNoThrow(String what, Call call) {
        due(what + " throws", thrownBy(call), "nothing");
    }

    static String thrownBy(Call call) {
        try {
            call.run();
            return "nothing";
        } catch (RuntimeException e) {
            return e.getClass().getSimpleName();
        }
    }

    private static void fail(String line) {
        wrong++;
        lines++;
        if (lines <= (sentence.isEmpty() ? 50 : 5)) {
            System.out.println(sentence.isEmpty() ? line : "<" + sentence + "> " + line);
        }
    }

    /** To be called last: ends with exit code 1 if an answer was wrong, or if none was looked at. */
    static void end() {
        if (wrong != 0 || checks == 0) {
            System.out.println(wrong + " of " + checks + " answers are not as due");
            System.exit(1);
        }
    }
}
