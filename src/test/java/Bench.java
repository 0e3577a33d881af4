/** Small helps for tests that use a bench. */
final class Bench {
    /** All 16 products by rising numbers: 48 characters, as long as a valid text can be. */
    static final String ALL_PRODUCTS = "1+a+b+ab+c+ac+bc+abc+d+ad+bd+abd+cd+acd+bcd+abcd";

    private Bench() {
    }

    static void type(ZhegalkinBench bench, String text) {
        for (int i = 0; i < text.length(); i++) {
            bench.type(text.charAt(i));
        }
    }

    /** A new bench with this text. */
    static ZhegalkinBench withText(String text) {
        ZhegalkinBench bench = new ZhegalkinBench();
        type(bench, text);
        return bench;
    }

    /** A new bench whose function 4 has this table. */
    static ZhegalkinBench withTable(int table) {
        ZhegalkinBench bench = new ZhegalkinBench();
        bench.setTable(4, table);
        return bench;
    }

    static String printed(ZhegalkinBench bench, int function) {
        StringBuilder letters = new StringBuilder();
        int length = bench.printedLength(function);
        for (int place = 0; place < length; place++) {
            letters.append(bench.printedLetter(function, place));
        }
        return letters.toString();
    }

    /** All that a test of "changes nothing" looks at, in 9 calls. */
    static String state(ZhegalkinBench bench) {
        StringBuilder state = new StringBuilder(tables(bench));
        state.append(bench.recordedStates()).append(' ').append(bench.textError());
        return state.toString();
    }

    /** The six tables, in 6 calls. */
    static String tables(ZhegalkinBench bench) {
        StringBuilder tables = new StringBuilder();
        for (int function = 0; function < 6; function++) {
            tables.append(bench.tableOf(function)).append(' ');
        }
        return tables.toString();
    }

    /**
     * All that later calls can see of a bench, in at most 60 calls: tables, text, recorded states
     * and snapshot. The bench is of no use afterwards.
     */
    static String everything(ZhegalkinBench bench) {
        StringBuilder all = new StringBuilder(tables(bench));
        all.append("error ").append(bench.textError()).append(' ');
        all.append(Check.thrownBy(bench::textProducts).equals("nothing")
            ? "products " + bench.textProducts() : "not valid").append(' ');
        all.append("length ").append(bench.clearText()).append(' ');
        all.append("recorded ").append(bench.recordedStates()).append(": ");
        for (int i = 0; i < 6 && bench.recordedStates() > 0; i++) {
            all.append(bench.undo()).append(" left, ").append(tables(bench));
        }
        all.append(Check.thrownBy(bench::restoreSnapshot).equals("nothing")
            ? "snapshot " + tables(bench) : "no snapshot");
        return all.toString();
    }

    /** A call that is asked of a bench. */
    interface Asked {
        Object of(ZhegalkinBench bench);
    }

    /** A call that is asked of a bench with a number: a function, a variable, a point or a table. */
    interface AskedWith {
        Object of(ZhegalkinBench bench, int number);
    }
}
