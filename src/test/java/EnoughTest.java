/** Promises 27 and 28: which functions are enough, and how few. */
public final class EnoughTest {
    public static void main(String[] args) {
        newBench();
        oneFunction();
        eachClassAlone();
        needMany();
        mixedBenches();
        wrongSets();
        Check.end();
    }

    private static void newBench() {
        ZhegalkinBench bench = new ZhegalkinBench();
        Check.due("all of a new bench", bench.areEnough(63), false);
        Check.due("fewest of a new bench", bench.fewestEnough(), -1);
    }

    private static void oneFunction() {
        for (int table = 0; table < 65536; table++) {
            ZhegalkinBench bench = Bench.withTable(table);
            Model model = new Model();
            model.put(4, Model.valuesOf(table));
            Check.due("alone " + table, bench.areEnough(16), model.enough(16));
            if (table % 16 == 7) {
                Check.due("fewest with " + table, bench.fewestEnough(), model.fewestEnough());
            }
        }
    }

    /** A bench whose functions are all in this class alone is not enough; one function frees it. */
    private static void eachClassAlone() {
        String[][] within = {
            {"ab+a", "a+b", "abc"}, {"ab", "1+a+b", "1+ab+abc"}, {"1+a", "ab+bc+ac", "1+b"},
            {"0", "1", "ab"}, {"1", "1+a", "a+b+c"}
        };
        String[] out = {"1+ab", "ab+abc", "ab+1", "1+a", "ab+c"};
        for (int i = 0; i < within.length; i++) {
            ZhegalkinBench bench = new ZhegalkinBench();
            for (int f = 0; f < 6; f++) {
                definedBy(bench, f, within[i][f % 3]);
            }
            Check.due("class " + i + " alone", bench.areEnough(63), false);
            Check.due("class " + i + ", fewest", bench.fewestEnough(), -1);
            definedBy(bench, 5, out[i]);
            Check.due("class " + i + ", one out", bench.areEnough(63), true);
        }
    }

    private static void definedBy(ZhegalkinBench bench, int function, String text) {
        bench.clearText();
        Bench.type(bench, text);
        bench.define(function);
    }

    private static void needMany() {
        ZhegalkinBench bench = new ZhegalkinBench();
        bench.join(0, 0, 1, ZhegalkinBench.AND);
        bench.join(1, 1, 2, ZhegalkinBench.PLUS);
        bench.join(1, 1, 3, ZhegalkinBench.PLUS);
        Check.due("ab, b+c+d, 0, 1", bench.areEnough(1 + 2 + 16 + 32), true);
        Check.due("ab, b+c+d, 1", bench.areEnough(1 + 2 + 32), false);
        Check.due("fewest is 4", bench.fewestEnough(), 4);
        bench.setTable(3, 0x5555);
        Check.due("fewest with 1+a is 2", bench.fewestEnough(), 2);
        bench.setTable(2, 0x7777);
        Check.due("fewest with 1+ab is 1", bench.fewestEnough(), 1);
        Check.due("1+ab", bench.areEnough(4), true);
    }

    private static void mixedBenches() {
        Steps steps = new Steps(5);
        int[] likely = {
            0, 65535, 43690, 52428, 34952, 61166, 26214, 38550, 0x9696, 0xE8E8, 0x5555, 0xDDDD,
            0x8080, 0xFE80, 0x6666, 0x9999, 0xB2B2, 0xCACA
        };
        for (int round = 0; round < 1500; round++) {
            ZhegalkinBench bench = new ZhegalkinBench();
            Model model = new Model();
            for (int f = 0; f < 6; f++) {
                int table = likely[steps.below(likely.length)];
                bench.setTable(f, table);
                model.put(f, Model.valuesOf(table));
            }
            for (int functions = 1; functions < 64; functions++) {
                Check.due("mixed " + round + " " + functions, bench.areEnough(functions),
                    model.enough(functions));
            }
            Check.due("fewest of " + round, bench.fewestEnough(), model.fewestEnough());
        }
    }

    private static void wrongSets() {
        ZhegalkinBench bench = new ZhegalkinBench();
        int[] wrong = {0, -1, 64, 65, Integer.MIN_VALUE, Integer.MAX_VALUE};
        for (int functions : wrong) {
            Check.dueArgument("areEnough " + functions, () -> bench.areEnough(functions));
        }
    }
}
