/** A test of its own for each sentence on classes and promises 25 to 28 that names a boundary. */
public final class BoundaryClassesTest {
    public static void main(String[] args) {
        selfDualAndMonotone();
        enough();
        promise27();
        promise28();
        Check.end();
    }

    private static void selfDualAndMonotone() {
        Check.sentence("it is self-dual if its values at each point p and at 15 - p differ",
            BoundaryClassesTest::eachPairOfEnds);
        Check.sentence("self-dual: 0, 1 and each variable", BoundaryClassesTest::selfDualAtFirst);
        Check.sentence("self-dual: just 256 functions", BoundaryClassesTest::numberOfSelfDual);
        Check.sentence("it is monotone if, whenever each variable of a point p is at most that of a"
            + " point q, its value at p is at most that at q", BoundaryClassesTest::eachRise);
        Check.sentence("monotone: 0, 1 and each variable", BoundaryClassesTest::monotoneAtFirst);
        Check.sentence("monotone: just 168 functions", BoundaryClassesTest::numberOfMonotone);
    }

    private static void enough() {
        Check.sentence("just if not all of them keep 0", BoundaryClassesTest::keepZero);
        Check.sentence("not all keep 1", BoundaryClassesTest::keepOne);
        Check.sentence("not all are self-dual", BoundaryClassesTest::selfDual);
        Check.sentence("not all are monotone", BoundaryClassesTest::monotone);
        Check.sentence("and not all are linear", BoundaryClassesTest::linear);
        Check.sentence("A function is linear if its degree is at most 1",
            BoundaryClassesTest::linearByDegree);
        Check.sentence("Some functions are enough: each class may be left by another one",
            BoundaryClassesTest::leftByDifferentOnes);
    }

    private static void promise27() {
        Check.sentence("Promise 27: functions: 1 to 63", BoundaryClassesTest::setsTaken);
        Check.sentence("Promise 27: Throws IllegalArgumentException if functions is out of range",
            BoundaryClassesTest::setsRefused);
        Check.sentence("Promise 27: the bit f is set for the function f",
            BoundaryClassesTest::bitsOfSets);
        Check.sentence("Promise 27: one function that is enough alone: 16256 of the 65536",
            BoundaryClassesTest::numberOfEnoughAlone);
    }

    private static void promise28() {
        Check.sentence("Promise 28: NONE if all of them are not", BoundaryClassesTest::none);
        Check.sentence("Promise 28: the least number: 1", BoundaryClassesTest::one);
        Check.sentence("Promise 28: the least number: 2", BoundaryClassesTest::two);
        Check.sentence("Promise 28: the least number: 3", BoundaryClassesTest::three);
        Check.sentence("Promise 28: the least number: 4", BoundaryClassesTest::four);
        Check.sentence("Promise 28: the least number, wherever the functions are",
            BoundaryClassesTest::anyPair);
    }

    /** A new bench whose function f is defined by the text f; "0" for those that are not given. */
    private static ZhegalkinBench defined(String... texts) {
        ZhegalkinBench bench = new ZhegalkinBench();
        for (int function = 0; function < 6; function++) {
            bench.clearText();
            Bench.type(bench, function < texts.length ? texts[function] : "0");
            bench.define(function);
        }
        return bench;
    }

    /** A function that is in this class alone, added to some that are in no other class. */
    private static void leavesTheClass(int set, boolean[] leaves, String... texts) {
        for (int table = 0; table < 65536; table++) {
            ZhegalkinBench bench = defined(texts);
            bench.setTable(5, table);
            Check.due("the others with " + table, bench.areEnough(set | 32), leaves[table]);
        }
        ZhegalkinBench bench = defined(texts);
        Check.due("the others alone", bench.areEnough(set), false);
    }

    // ---- self-dual, monotone

    private static void eachPairOfEnds() {
        for (int table : new int[] {43690, 52428, 61680, 65280, 0x6996 ^ 0xAAAA, 0x00FF, 0x5555}) {
            Check.due("isSelfDual of " + table, Bench.withTable(table).isSelfDual(4), true);
            for (int point = 0; point < 16; point++) {
                Check.due("isSelfDual of " + table + " but for " + point,
                    Bench.withTable(table ^ 1 << point).isSelfDual(4), false);
                int pair = 1 << point | 1 << (15 - point);
                Check.due("isSelfDual of " + table + " but for both at " + point,
                    Bench.withTable(table ^ pair).isSelfDual(4), true);
            }
        }
    }

    private static void selfDualAtFirst() {
        ZhegalkinBench bench = new ZhegalkinBench();
        for (int function = 0; function < 6; function++) {
            Check.due("isSelfDual " + function, bench.isSelfDual(function), function < 4);
        }
    }

    private static void numberOfSelfDual() {
        int count = 0;
        for (int table = 0; table < 65536; table++) {
            count += Bench.withTable(table).isSelfDual(4) ? 1 : 0;
        }
        Check.due("the number", count, 256);
    }

    /** The function that is 1 at all points from p on upwards, and the same but for one of them. */
    private static void eachRise() {
        for (int p = 0; p < 16; p++) {
            int above = 0;
            for (int q = 0; q < 16; q++) {
                above |= (p & q) == p ? 1 << q : 0;
            }
            Check.due("isMonotone above " + p, Bench.withTable(above).isMonotone(4), true);
            for (int q = 0; q < 16; q++) {
                if ((p & q) == p && p != q) {
                    Check.due("isMonotone above " + p + " but for " + q,
                        Bench.withTable(above - (1 << q)).isMonotone(4), false);
                }
            }
        }
    }

    private static void monotoneAtFirst() {
        ZhegalkinBench bench = new ZhegalkinBench();
        for (int function = 0; function < 6; function++) {
            Check.due("isMonotone " + function, bench.isMonotone(function), true);
        }
        bench.join(0, 0, 5, ZhegalkinBench.PLUS);
        Check.due("isMonotone of 1+a", bench.isMonotone(0), false);
        bench.join(1, 1, 2, ZhegalkinBench.PLUS);
        Check.due("isMonotone of b+c", bench.isMonotone(1), false);
    }

    private static void numberOfMonotone() {
        int count = 0;
        for (int table = 0; table < 65536; table++) {
            count += Bench.withTable(table).isMonotone(4) ? 1 : 0;
        }
        Check.due("the number", count, 168);
    }

    // ---- enough

    /** a+ab keeps 0 and is in no other class. */
    private static void keepZero() {
        boolean[] leaves = new boolean[65536];
        for (int table = 0; table < 65536; table++) {
            leaves[table] = table % 2 == 1;
        }
        leavesTheClass(1, leaves, "a+ab");
    }

    /** 1+a+ab keeps 1 and is in no other class. */
    private static void keepOne() {
        boolean[] leaves = new boolean[65536];
        for (int table = 0; table < 65536; table++) {
            leaves[table] = table < 32768;
        }
        leavesTheClass(1, leaves, "1+a+ab");
    }

    /** 1+ab+ac+bc is self-dual and in no other class. */
    private static void selfDual() {
        boolean[] leaves = new boolean[65536];
        for (int table = 0; table < 65536; table++) {
            leaves[table] = !Model.selfDual(Model.valuesOf(table));
        }
        leavesTheClass(1, leaves, "1+ab+ac+bc");
    }

    /** 0, 1 and ab share no class but the monotone one. */
    private static void monotone() {
        boolean[] leaves = new boolean[65536];
        for (int table = 0; table < 65536; table++) {
            leaves[table] = !Model.monotone(Model.valuesOf(table));
        }
        leavesTheClass(7, leaves, "0", "1", "ab");
    }

    /** 0 and 1+a share no class but the linear one. */
    private static void linear() {
        boolean[] leaves = new boolean[65536];
        for (int table = 0; table < 65536; table++) {
            leaves[table] = Model.degree(Model.valuesOf(table)) > 1;
        }
        leavesTheClass(3, leaves, "0", "1+a");
    }

    private static void linearByDegree() {
        String[] isLinear = {"0", "1", "d", "1+d", "a+b+c+d", "1+a+b+c+d"};
        for (String text : isLinear) {
            Check.due("0, 1+a and " + text, defined("0", "1+a", text).areEnough(7), false);
        }
        String[] isNot = {"ab", "cd", "1+a+b+c+d+ad", "abc", "abcd", "d+abcd"};
        for (String text : isNot) {
            Check.due("0, 1+a and " + text, defined("0", "1+a", text).areEnough(7), true);
        }
    }

    private static void leftByDifferentOnes() {
        // No single one of them leaves more than it must: 1 leaves "keeps 0", 0 leaves "keeps 1".
        ZhegalkinBench bench = defined("1", "0", "ab", "a+b+c");
        Check.due("all four", bench.areEnough(15), true);
        Check.due("without 1", bench.areEnough(14), false);
        Check.due("without 0", bench.areEnough(13), false);
        Check.due("without ab", bench.areEnough(11), false);
        Check.due("without a+b+c", bench.areEnough(7), false);
    }

    // ---- promise 27

    private static void setsTaken() {
        ZhegalkinBench bench = new ZhegalkinBench();
        for (int functions = 1; functions <= 63; functions++) {
            Check.due("areEnough " + functions, bench.areEnough(functions), false);
        }
        bench.setTable(5, 0x7777);
        for (int functions = 1; functions <= 63; functions++) {
            Check.due("areEnough with 1+ab at 5 of " + functions, bench.areEnough(functions),
                functions >= 32);
        }
    }

    private static void setsRefused() {
        for (int functions : Wrong.SETS) {
            Check.dueArgument("areEnough of " + functions,
                () -> new ZhegalkinBench().areEnough(functions));
            // Where each single function would be enough.
            ZhegalkinBench bench = defined("1+ab", "1+ab", "1+ab", "1+ab", "1+ab", "1+ab");
            Check.dueArgument("areEnough of " + functions + " with 1+ab",
                () -> bench.areEnough(functions));
        }
    }

    private static void bitsOfSets() {
        for (int function = 0; function < 6; function++) {
            ZhegalkinBench bench = new ZhegalkinBench();
            bench.setTable(function, 0x7777);
            for (int other = 0; other < 6; other++) {
                Check.due("1+ab at " + function + ", asked for " + other,
                    bench.areEnough(1 << other), function == other);
            }
            Check.due("1+ab at " + function + ", asked for all but it",
                bench.areEnough(63 - (1 << function)), false);
            Check.due("1+ab at " + function + ", asked for all", bench.areEnough(63), true);
        }
    }

    private static void numberOfEnoughAlone() {
        int count = 0;
        for (int table = 0; table < 65536; table++) {
            count += Bench.withTable(table).areEnough(16) ? 1 : 0;
        }
        Check.due("the number", count, 16256);
    }

    // ---- promise 28

    private static void none() {
        Check.due("of a new bench", new ZhegalkinBench().fewestEnough(), ZhegalkinBench.NONE);
        Check.due("of zeros", defined().fewestEnough(), -1);
        Check.due("of all that keep 0", defined("a+b", "ab", "a+ab", "c", "0", "abc").fewestEnough(),
            -1);
        Check.due("of all that keep 1", defined("1+a+b", "ab", "1+a+ab", "c", "1", "abc").fewestEnough(),
            -1);
        Check.due("of all self-dual", defined("1+a", "a+b+c", "ab+ac+bc", "1+b", "c", "1+ab+ac+bc")
            .fewestEnough(), -1);
        Check.due("of all monotone", defined("0", "1", "ab", "a+b+ab", "ab+ac+bc", "abcd")
            .fewestEnough(), -1);
        Check.due("of all linear", defined("0", "1", "a", "1+b", "a+b+c", "1+a+d").fewestEnough(), -1);
    }

    private static void one() {
        for (int function = 0; function < 6; function++) {
            ZhegalkinBench bench = new ZhegalkinBench();
            bench.setTable(function, 0x7777);
            Check.due("1+ab at " + function, bench.fewestEnough(), 1);
            bench.setTable(function, 0x1111);
            Check.due("1+a+b+ab at " + function, bench.fewestEnough(), 1);
        }
        Check.due("1+ab at all", defined("1+ab", "1+ab", "1+ab", "1+ab", "1+ab", "1+ab")
            .fewestEnough(), 1);
    }

    private static void two() {
        Check.due("ab and 1+a", defined("ab", "1+a").fewestEnough(), 2);
        Check.due("0 and a implies b", defined("0", "1+a+ab").fewestEnough(), 2);
        Check.due("1 and a+ab, others that are of no use",
            defined("1", "a+ab", "1", "1", "a", "b").fewestEnough(), 2);
    }

    private static void three() {
        Check.due("ab, a+b and 1", defined("ab", "a+b", "1", "ab", "a+b", "1").fewestEnough(), 3);
        Check.due("they are enough", defined("ab", "a+b", "1").areEnough(7), true);
        Check.due("no pair of them is: 1 and 2", defined("ab", "a+b", "1").areEnough(3), false);
        Check.due("no pair of them is: 1 and 3", defined("ab", "a+b", "1").areEnough(5), false);
        Check.due("no pair of them is: 2 and 3", defined("ab", "a+b", "1").areEnough(6), false);
    }

    private static void four() {
        Check.due("ab, a+b+c, 0 and 1", defined("ab", "a+b+c", "0", "1", "ab", "1").fewestEnough(), 4);
        Check.due("the same at the other end", defined("ab", "0", "0", "1", "ab", "b+c+d")
            .fewestEnough(), 4);
    }

    private static void anyPair() {
        for (int one = 0; one < 6; one++) {
            for (int other = 0; other < 6; other++) {
                if (one != other) {
                    // All others are a, which is of no use here.
                    ZhegalkinBench bench = new ZhegalkinBench();
                    for (int function = 0; function < 6; function++) {
                        bench.setTable(function, function == other ? 0x5555 : 0xAAAA);
                    }
                    Check.due("without ab", bench.fewestEnough(), -1);
                    bench.setTable(one, 0x8888);
                    Check.due("ab at " + one + ", 1+a at " + other, bench.fewestEnough(), 2);
                }
            }
        }
    }
}
