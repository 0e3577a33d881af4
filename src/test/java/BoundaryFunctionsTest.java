/**
 * A test of its own for each sentence on functions, polynomials, printing and distances, and on
 * promises 14 to 24, that names a boundary.
 */
public final class BoundaryFunctionsTest {
    public static void main(String[] args) {
        terms();
        wrongFunctions();
        values();
        polynomials();
        printing();
        distances();
        Check.end();
    }

    private static void terms() {
        Check.sentence("At first the functions 0 to 3 are a, b, c and d, the functions 4 and 5 are 0"
            + " and 1 at all points", BoundaryFunctionsTest::atFirst);
        Check.sentence("a is its bit 0, b its bit 1, c its bit 2 and d its bit 3",
            BoundaryFunctionsTest::bitsOfPoints);
        Check.sentence("whose bit p is the value of the function at the point p",
            BoundaryFunctionsTest::bitsOfTables);
        Check.sentence("1 if an odd number of them is 1", BoundaryFunctionsTest::oddNumber);
        Check.sentence("the product 0, without variables, is always 1",
            BoundaryFunctionsTest::productZero);
        Check.sentence("its value is 1 if all its variables are 1",
            BoundaryFunctionsTest::valuesOfProducts);
        Check.sentence("The degree ... (0 if there is none)", BoundaryFunctionsTest::degreeOfNone);
        Check.sentence("The constants", BoundaryFunctionsTest::constants);
    }

    private static void wrongFunctions() {
        function(14, "tableOf", (bench, f) -> bench.tableOf(f));
        function(15, "valueAt", (bench, f) -> bench.valueAt(f, 0));
        function(16, "weightOf", (bench, f) -> bench.weightOf(f));
        function(17, "dependsOn", (bench, f) -> bench.dependsOn(f, 0));
        function(18, "productsByHalves", (bench, f) -> bench.productsByHalves(f));
        function(19, "productsBySums", (bench, f) -> bench.productsBySums(f));
        function(20, "degreeOf", (bench, f) -> bench.degreeOf(f));
        function(21, "printedLength", (bench, f) -> bench.printedLength(f));
        function(22, "printedLetter", (bench, f) -> bench.printedLetter(f, 0));
        function(23, "distanceByTrying", (bench, f) -> bench.distanceByTrying(f));
        function(24, "distanceBySums", (bench, f) -> bench.distanceBySums(f));
        function(25, "isSelfDual", (bench, f) -> bench.isSelfDual(f));
        function(26, "isMonotone", (bench, f) -> bench.isMonotone(f));
    }

    private static void function(int promise, String call, Bench.AskedWith asked) {
        Check.sentence("Promise " + promise + ": Throws IndexOutOfBoundsException if there is no such"
            + " function", () -> Wrong.function(call, asked));
    }

    private static void values() {
        Check.sentence("Promise 14: Returns the table, 0 to 65535", BoundaryFunctionsTest::tablesTold);
        Check.sentence("Promise 15: point: 0 to 15", BoundaryFunctionsTest::pointsTaken);
        Check.sentence("Promise 15: Throws ... if there is no such ... point",
            BoundaryFunctionsTest::pointsRefused);
        Check.sentence("Promise 15: Returns 0 or 1", BoundaryFunctionsTest::zeroOrOne);
        Check.sentence("Promise 16: Returns the number of points, 0 to 16",
            BoundaryFunctionsTest::weights);
        Check.sentence("Promise 17: Throws ... if there is no such ... variable",
            () -> Wrong.variable("dependsOn", (bench, v) -> bench.dependsOn(0, v)));
        Check.sentence("Promise 17: its values differ at two points that differ in this variable alone",
            BoundaryFunctionsTest::dependsByOnePair);
        Check.sentence("Promise 17: the variables themselves, 0 and 1",
            BoundaryFunctionsTest::dependsAtFirst);
    }

    private static void polynomials() {
        Check.sentence("Promises 18 and 19: the products, as a number: none, one and all",
            BoundaryFunctionsTest::products);
        Check.sentence("Promise 19: Returns the same", BoundaryFunctionsTest::productsTwoWays);
        Check.sentence("Promise 19: an odd number of the values is 1 at the points all of whose 1s are"
            + " in the product", BoundaryFunctionsTest::productsOfOnePoint);
        Check.sentence("Promise 20: Returns 0 to 4", BoundaryFunctionsTest::degrees);
    }

    private static void printing() {
        Check.sentence("The printed text of a function is \"0\" if it has no products",
            BoundaryFunctionsTest::printedZero);
        Check.sentence("its products by rising numbers, with \"+\" between two of them",
            BoundaryFunctionsTest::printedRising);
        Check.sentence("Promise 21: Returns the number of characters, 1 at least and 48 at most",
            BoundaryFunctionsTest::printedLengths);
        Check.sentence("Promise 22: place: 0 for the first one", BoundaryFunctionsTest::firstPlace);
        Check.sentence("Promise 22: Throws ... if there is no such ... letter",
            BoundaryFunctionsTest::lettersRefused);
        Check.sentence("Promise 22: no such letter, where a longer text was printed before",
            BoundaryFunctionsTest::lettersOfBefore);
    }

    private static void distances() {
        Check.sentence("the least number of points at which it differs from one of these: 0 for each"
            + " linear one", BoundaryFunctionsTest::distanceOfLinear);
        Check.sentence("Promises 23 and 24: one point away from each linear function",
            BoundaryFunctionsTest::distanceOfOne);
        Check.sentence("Promises 23 and 24: the greatest distance, 6", BoundaryFunctionsTest::farthest);
        Check.sentence("Promise 24: Returns the same", BoundaryFunctionsTest::distancesTwoWays);
        Check.sentence("Promise 24: the greatest size of what comes out, below 0 too",
            BoundaryFunctionsTest::negativeSums);
    }

    // ---- terms

    private static void atFirst() {
        ZhegalkinBench bench = new ZhegalkinBench();
        for (int point = 0; point < 16; point++) {
            for (int variable = 0; variable < 4; variable++) {
                Check.due("variable " + variable + " at " + point, bench.valueAt(variable, point),
                    point / (1 << variable) % 2);
            }
            Check.due("0 at " + point, bench.valueAt(4, point), 0);
            Check.due("1 at " + point, bench.valueAt(5, point), 1);
        }
        String[] printed = {"a", "b", "c", "d", "0", "1"};
        for (int function = 0; function < 6; function++) {
            Check.due("printed", Bench.printed(bench, function), printed[function]);
        }
    }

    private static void bitsOfPoints() {
        int[] points = {1, 2, 4, 8};
        ZhegalkinBench bench = new ZhegalkinBench();
        for (int variable = 0; variable < 4; variable++) {
            for (int other = 0; other < 4; other++) {
                Check.due("variable " + variable + " at " + points[other],
                    bench.valueAt(variable, points[other]), variable == other ? 1 : 0);
            }
        }
    }

    private static void bitsOfTables() {
        for (int point = 0; point < 16; point++) {
            ZhegalkinBench bench = Bench.withTable(1 << point);
            for (int other = 0; other < 16; other++) {
                Check.due("table " + (1 << point) + " at " + other, bench.valueAt(4, other),
                    point == other ? 1 : 0);
            }
        }
    }

    /** 1+a+b at its four points: one, two, two and three of the products are 1. */
    private static void oddNumber() {
        ZhegalkinBench bench = Bench.withText("1+a+b");
        bench.define(0);
        int[] want = {1, 0, 0, 1};
        for (int point = 0; point < 4; point++) {
            Check.due("1+a+b at " + point, bench.valueAt(0, point), want[point]);
        }
        ZhegalkinBench all = Bench.withText("1+a+b+ab+c+ac+bc+abc+d+ad+bd+abd+cd+acd+bcd+abcd");
        all.define(0);
        for (int point = 0; point < 16; point++) {
            // The number of products that are 1 is 1 at the point 0, and even at all others.
            Check.due("all products at " + point, all.valueAt(0, point), point == 0 ? 1 : 0);
        }
    }

    private static void productZero() {
        ZhegalkinBench bench = Bench.withText("1");
        bench.define(4);
        Check.due("tableOf", bench.tableOf(4), 65535);
        Check.due("productsByHalves", bench.productsByHalves(4), 1);
        Check.due("productsBySums", bench.productsBySums(4), 1);
    }

    private static void valuesOfProducts() {
        for (int product = 0; product < 16; product++) {
            ZhegalkinBench bench = Bench.withText(Model.PRODUCTS[product]);
            bench.define(4);
            for (int point = 0; point < 16; point++) {
                Check.due(Model.PRODUCTS[product] + " at " + point, bench.valueAt(4, point),
                    (point & product) == product ? 1 : 0);
            }
        }
    }

    private static void degreeOfNone() {
        Check.due("degreeOf 0", new ZhegalkinBench().degreeOf(4), 0);
        ZhegalkinBench bench = Bench.withText("0");
        bench.define(0);
        Check.due("degreeOf of what 0 defines", bench.degreeOf(0), 0);
        Check.due("degreeOf 1, whose product has no variables", bench.degreeOf(5), 0);
    }

    private static void constants() {
        Check.due("NONE", ZhegalkinBench.NONE, -1);
        Check.due("PLUS", ZhegalkinBench.PLUS, 0);
        Check.due("AND", ZhegalkinBench.AND, 1);
        Check.due("OR", ZhegalkinBench.OR, 2);
        Check.due("IMPLIES", ZhegalkinBench.IMPLIES, 3);
    }

    // ---- promises 14 to 17

    private static void tablesTold() {
        for (int function = 0; function < 6; function++) {
            for (int table : new int[] {0, 1, 32767, 32768, 65534, 65535}) {
                ZhegalkinBench bench = new ZhegalkinBench();
                bench.setTable(function, table);
                Check.due("tableOf", bench.tableOf(function), table);
            }
        }
    }

    private static void pointsTaken() {
        ZhegalkinBench bench = Bench.withTable(0x8001);
        for (int point = 0; point < 16; point++) {
            Check.due("valueAt " + point, bench.valueAt(4, point),
                point == 0 || point == 15 ? 1 : 0);
        }
    }

    private static void pointsRefused() {
        for (int point : Wrong.POINTS) {
            for (int function = 0; function < 6; function++) {
                int f = function;
                Check.dueIndex("valueAt " + f + " " + point,
                    () -> new ZhegalkinBench().valueAt(f, point));
            }
        }
    }

    private static void zeroOrOne() {
        for (int point = 0; point < 16; point++) {
            Check.due("full at " + point, Bench.withTable(65535).valueAt(4, point), 1);
            Check.due("empty at " + point, Bench.withTable(0).valueAt(4, point), 0);
        }
    }

    private static void weights() {
        int table = 0;
        for (int count = 0; count <= 16; count++) {
            Check.due("weight of " + table, Bench.withTable(table).weightOf(4), count);
            int fromAbove = 65535 - (65535 >> count);
            Check.due("weight of " + fromAbove, Bench.withTable(fromAbove).weightOf(4), count);
            table = table * 2 + 1;
        }
    }

    /** A function with values that differ at one pair of points alone, up and down. */
    private static void dependsByOnePair() {
        for (int point = 0; point < 16; point++) {
            for (int variable = 0; variable < 4; variable++) {
                String call = "point " + point + " variable " + variable;
                Check.due(call, Bench.withTable(1 << point).dependsOn(4, variable), true);
                int allButOne = 65535 - (1 << point);
                Check.due("all but " + call, Bench.withTable(allButOne).dependsOn(4, variable), true);
                int bothOfPair = 1 << point | 1 << (point ^ 1 << variable);
                Check.due("pair of " + call, Bench.withTable(bothOfPair).dependsOn(4, variable), false);
            }
        }
    }

    private static void dependsAtFirst() {
        ZhegalkinBench bench = new ZhegalkinBench();
        for (int function = 0; function < 6; function++) {
            for (int variable = 0; variable < 4; variable++) {
                Check.due("function " + function + " on " + variable,
                    bench.dependsOn(function, variable), function == variable);
            }
        }
    }

    // ---- promises 18 to 20

    private static void bothProducts(int table, int want) {
        ZhegalkinBench bench = Bench.withTable(table);
        Check.due("productsByHalves of " + table, bench.productsByHalves(4), want);
        Check.due("productsBySums of " + table, bench.productsBySums(4), want);
    }

    private static void products() {
        bothProducts(0, 0);
        bothProducts(65535, 1);
        bothProducts(1, 65535);
        bothProducts(32768, 32768);
        bothProducts(32767, 32769);
        bothProducts(43690, 1 << 1);
        bothProducts(52428, 1 << 2);
        bothProducts(61680, 1 << 4);
        bothProducts(65280, 1 << 8);
        bothProducts(65534, 65534);
    }

    private static void productsTwoWays() {
        for (int table = 0; table < 65536; table++) {
            ZhegalkinBench bench = Bench.withTable(table);
            Check.due("productsBySums of " + table, bench.productsBySums(4),
                bench.productsByHalves(4));
        }
    }

    /** 1 at the point p alone: all products that have the 1s of p in them. */
    private static void productsOfOnePoint() {
        for (int point = 0; point < 16; point++) {
            int want = 0;
            for (int product = 0; product < 16; product++) {
                if ((product & point) == point) {
                    want |= 1 << product;
                }
            }
            bothProducts(1 << point, want);
        }
    }

    private static void degrees() {
        String[] texts = {"0", "1", "a", "d", "1+a+b+c+d", "ab", "cd", "d+ab", "abc", "bcd", "1+acd+ab",
            "abcd", "1+abcd"};
        int[] want = {0, 0, 1, 1, 1, 2, 2, 2, 3, 3, 3, 4, 4};
        for (int i = 0; i < texts.length; i++) {
            ZhegalkinBench bench = Bench.withText(texts[i]);
            bench.define(0);
            Check.due("degree of " + texts[i], bench.degreeOf(0), want[i]);
        }
        // A product that is there twice in the sum of two functions is gone from it.
        ZhegalkinBench bench = Bench.withText("abcd+a");
        bench.define(0);
        bench.clearText();
        Bench.type(bench, "abcd+b");
        bench.define(1);
        bench.join(2, 0, 1, ZhegalkinBench.PLUS);
        Check.due("degree of a+b", bench.degreeOf(2), 1);
        for (int table = 0; table < 65536; table++) {
            // The degree is 4 just if the number of points at which the function is 1 is odd.
            boolean isFour = Bench.withTable(table).degreeOf(4) == 4;
            Check.due("degree 4 of " + table, isFour, Integer.bitCount(table) % 2 == 1);
        }
    }

    // ---- printing, promises 21 and 22

    private static void printedZero() {
        ZhegalkinBench bench = new ZhegalkinBench();
        Check.due("printedLength", bench.printedLength(4), 1);
        Check.due("printedLetter", bench.printedLetter(4, 0), '0');
        Check.dueIndex("printedLetter at 1", () -> bench.printedLetter(4, 1));
        Check.due("printed 1", Bench.printed(bench, 5), "1");
    }

    private static void printedRising() {
        String[] typed = {"abcd+1", "d+c+b+a", "abd+cd+d+abc", "a+1", "bc+ad"};
        String[] want = {"1+abcd", "a+b+c+d", "abc+d+abd+cd", "1+a", "bc+ad"};
        for (int i = 0; i < typed.length; i++) {
            ZhegalkinBench bench = Bench.withText(typed[i]);
            bench.define(3);
            Check.due("printed", Bench.printed(bench, 3), want[i]);
        }
        for (int product = 0; product < 16; product++) {
            ZhegalkinBench bench = Bench.withText(Model.PRODUCTS[product]);
            bench.define(0);
            Check.due("printed", Bench.printed(bench, 0), Model.PRODUCTS[product]);
        }
    }

    private static void printedLengths() {
        ZhegalkinBench bench = new ZhegalkinBench();
        for (int function = 0; function < 6; function++) {
            Check.due("printedLength at first", bench.printedLength(function), 1);
        }
        bench.setTable(0, 1);
        Check.due("printedLength of all", bench.printedLength(0), 48);
        bench.setTable(0, 32768);
        Check.due("printedLength of abcd", bench.printedLength(0), 4);
        // All but the product 1: "1+" is gone.
        bench.setTable(0, 65534);
        Check.due("printedLength of all but 1", bench.printedLength(0), 46);
    }

    private static void firstPlace() {
        String letters = "abcd01";
        ZhegalkinBench bench = new ZhegalkinBench();
        for (int function = 0; function < 6; function++) {
            Check.due("printedLetter", bench.printedLetter(function, 0), letters.charAt(function));
        }
        bench.setTable(0, 1);
        Check.due("first of all", bench.printedLetter(0, 0), '1');
        Check.due("second of all", bench.printedLetter(0, 1), '+');
        Check.due("last of all", bench.printedLetter(0, 47), 'd');
    }

    private static void lettersRefused() {
        int[] tables = {0, 65535, 43690, 32768, 0x6666, 1};
        int[] lengths = {1, 1, 1, 4, 3, 48};
        for (int i = 0; i < tables.length; i++) {
            ZhegalkinBench bench = Bench.withTable(tables[i]);
            int last = lengths[i] - 1;
            Check.dueNoThrow("the last letter", () -> bench.printedLetter(4, last));
            Check.dueIndex("the letter behind it", () -> bench.printedLetter(4, last + 1));
            Check.dueIndex("the next one", () -> bench.printedLetter(4, last + 2));
            for (int place : new int[] {-1, 48, 49, 80, 256, 65536, Integer.MIN_VALUE,
                Integer.MAX_VALUE}) {
                Check.dueIndex("letter " + place, () -> bench.printedLetter(4, place));
            }
        }
    }

    private static void lettersOfBefore() {
        ZhegalkinBench bench = Bench.withTable(1);
        bench.printedLetter(4, 47);
        Check.dueIndex("a letter of the function 0", () -> bench.printedLetter(0, 1));
        Check.due("its first one", bench.printedLetter(0, 0), 'a');
        bench.printedLength(4);
        Check.dueIndex("a letter of the function 5", () -> bench.printedLetter(5, 47));
        bench.setTable(4, 0);
        Check.dueIndex("a letter of what was longer", () -> bench.printedLetter(4, 1));
        bench.undo();
        Check.due("the last one when it is longer again", bench.printedLetter(4, 47), 'd');
    }

    // ---- promises 23 and 24

    private static void bothDistances(int table, int want) {
        ZhegalkinBench bench = Bench.withTable(table);
        Check.due("distanceByTrying of " + table, bench.distanceByTrying(4), want);
        Check.due("distanceBySums of " + table, bench.distanceBySums(4), want);
    }

    private static int linearTable(int number) {
        int table = number >= 16 ? 65535 : 0;
        int[] variables = {43690, 52428, 61680, 65280};
        for (int variable = 0; variable < 4; variable++) {
            table ^= (number >> variable & 1) * variables[variable];
        }
        return table;
    }

    private static void distanceOfLinear() {
        for (int number = 0; number < 32; number++) {
            bothDistances(linearTable(number), 0);
        }
        int count = 0;
        for (int table = 0; table < 65536; table++) {
            count += Bench.withTable(table).distanceByTrying(4) == 0 ? 1 : 0;
        }
        Check.due("the number of functions with the distance 0", count, 32);
    }

    private static void distanceOfOne() {
        for (int number = 0; number < 32; number++) {
            for (int point = 0; point < 16; point++) {
                bothDistances(linearTable(number) ^ 1 << point, 1);
            }
        }
    }

    /** There are just 896 functions of four variables that are as far as can be. */
    private static void farthest() {
        int byTrying = 0;
        int bySums = 0;
        for (int table = 0; table < 65536; table++) {
            ZhegalkinBench bench = Bench.withTable(table);
            int tried = bench.distanceByTrying(4);
            int summed = bench.distanceBySums(4);
            Check.due("a distance above 6 of " + table, tried > 6 || summed > 6, false);
            byTrying += tried == 6 ? 1 : 0;
            bySums += summed == 6 ? 1 : 0;
        }
        Check.due("the number with the distance 6 by trying", byTrying, 896);
        Check.due("the number with the distance 6 by sums", bySums, 896);
    }

    private static void distancesTwoWays() {
        for (int table = 0; table < 65536; table++) {
            ZhegalkinBench bench = Bench.withTable(table);
            Check.due("distanceBySums of " + table, bench.distanceBySums(4),
                bench.distanceByTrying(4));
        }
    }

    /** A function and its opposite are equally far: their sums differ in the sign alone. */
    private static void negativeSums() {
        bothDistances(65535, 0);
        bothDistances(65535 - 43690, 0);
        bothDistances(32767, 1);
        bothDistances(65535 - 0x8888, 4);
        for (int table = 0; table < 32768; table++) {
            Check.due("distanceBySums of " + table + " and its opposite",
                Bench.withTable(table).distanceBySums(4),
                Bench.withTable(65535 - table).distanceBySums(4));
        }
    }
}
