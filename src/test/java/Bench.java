/** Small helps for tests that use a bench. */
final class Bench {
    private Bench() {
    }

    static void type(ZhegalkinBench bench, String text) {
        for (int i = 0; i < text.length(); i++) {
            bench.type(text.charAt(i));
        }
    }

    /** A new bench with this text. */
    static ZhegalkinBench withText(String text) {
        ZhegalkinBench bench = new ZhegalkinBench();
        type(bench, text);
        return bench;
    }

    /** A new bench whose function 4 has this table. */
    static ZhegalkinBench withTable(int table) {
        ZhegalkinBench bench = new ZhegalkinBench();
        bench.setTable(4, table);
        return bench;
    }

    static String printed(ZhegalkinBench bench, int function) {
        StringBuilder letters = new StringBuilder();
        int length = bench.printedLength(function);
        for (int place = 0; place < length; place++) {
            letters.append(bench.printedLetter(function, place));
        }
        return letters.toString();
    }

    /** All that a test of "changes nothing" looks at, in 9 calls. */
    static String state(ZhegalkinBench bench) {
        StringBuilder state = new StringBuilder();
        for (int function = 0; function < 6; function++) {
            state.append(bench.tableOf(function)).append(' ');
        }
        state.append(bench.recordedStates()).append(' ').append(bench.textError());
        return state.toString();
    }
}
