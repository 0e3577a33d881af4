/** Promises 14 to 26: what is told of one function, for all 65536 tables. */
public final class FunctionsTest {
    public static void main(String[] args) {
        examples();
        for (int table = 0; table < 65536; table++) {
            values(table);
            polynomial(table);
            printing(table);
            classes(table);
        }
        eachFunction();
        wrongFunctions();
        wrongPlaces();
        Check.end();
    }

    private static void examples() {
        ZhegalkinBench bench = Bench.withText("ab+cd");
        bench.define(0);
        Check.due("weight of ab+cd", bench.weightOf(0), 6);
        Check.due("degree of ab+cd", bench.degreeOf(0), 2);
        Check.due("distance of ab+cd", bench.distanceByTrying(0), 6);
        Check.due("distance of ab+cd by sums", bench.distanceBySums(0), 6);
        Check.due("printed ab+cd", Bench.printed(bench, 0), "ab+cd");
        Check.due("printed 0", Bench.printed(bench, 4), "0");
        Check.due("printed 1", Bench.printed(bench, 5), "1");
        Check.due("degree of 0", bench.degreeOf(4), 0);
        Check.due("degree of 1", bench.degreeOf(5), 0);
        bench.setTable(0, 1);
        Check.due("printed all", Bench.printed(bench, 0),
            "1+a+b+ab+c+ac+bc+abc+d+ad+bd+abd+cd+acd+bcd+abcd");
        Check.due("length of all", bench.printedLength(0), 48);
        Check.due("d depends on d", bench.dependsOn(3, 3), true);
        Check.due("d depends on a", bench.dependsOn(3, 0), false);
        Check.due("1 is monotone", bench.isMonotone(5), true);
        Check.due("0 is self-dual", bench.isSelfDual(4), false);
        Check.due("d is self-dual", bench.isSelfDual(3), true);
    }

    private static void values(int table) {
        ZhegalkinBench bench = Bench.withTable(table);
        boolean[] row = Model.valuesOf(table);
        Check.due("tableOf " + table, bench.tableOf(4), table);
        Check.due("weightOf " + table, bench.weightOf(4), Model.count(row));
        for (int point = 0; point < 16; point++) {
            Check.due("valueAt " + table + " " + point, bench.valueAt(4, point), row[point] ? 1 : 0);
        }
        for (int variable = 0; variable < 4; variable++) {
            Check.due("dependsOn " + table + " " + variable, bench.dependsOn(4, variable),
                Model.depends(row, variable));
        }
    }

    private static void polynomial(int table) {
        ZhegalkinBench bench = Bench.withTable(table);
        int products = Model.numberOf(Model.productsOf(Model.valuesOf(table)));
        Check.due("productsByHalves " + table, bench.productsByHalves(4), products);
        Check.due("productsBySums " + table, bench.productsBySums(4), products);
        Check.due("degreeOf " + table, bench.degreeOf(4), Model.degree(Model.valuesOf(table)));
        Check.due("the table stays", bench.tableOf(4), table);
    }

    private static void printing(int table) {
        ZhegalkinBench bench = Bench.withTable(table);
        String want = Model.printed(Model.valuesOf(table));
        Check.due("printed " + table, Bench.printed(bench, 4), want);
        Check.dueIndex("letter behind " + want, () -> bench.printedLetter(4, want.length()));
        Check.due("first letter", bench.printedLetter(4, 0), want.charAt(0));
    }

    private static void classes(int table) {
        ZhegalkinBench bench = Bench.withTable(table);
        boolean[] row = Model.valuesOf(table);
        int distance = Model.distance(row);
        Check.due("distanceByTrying " + table, bench.distanceByTrying(4), distance);
        Check.due("distanceBySums " + table, bench.distanceBySums(4), distance);
        Check.due("isSelfDual " + table, bench.isSelfDual(4), Model.selfDual(row));
        Check.due("isMonotone " + table, bench.isMonotone(4), Model.monotone(row));
    }

    /** Each call looks at the function that it is asked for, not at another one. */
    private static void eachFunction() {
        int[] tables = {0x0001, 0x8000, 0x6996, 0xFEE8, 0x1BE4, 0xD2F0};
        ZhegalkinBench bench = new ZhegalkinBench();
        for (int f = 0; f < 6; f++) {
            bench.setTable(f, tables[f]);
        }
        for (int f = 0; f < 6; f++) {
            boolean[] row = Model.valuesOf(tables[f]);
            int products = Model.numberOf(Model.productsOf(row));
            Check.due("tableOf " + f, bench.tableOf(f), tables[f]);
            Check.due("weightOf " + f, bench.weightOf(f), Model.count(row));
            Check.due("valueAt " + f, bench.valueAt(f, 15), row[15] ? 1 : 0);
            Check.due("dependsOn " + f, bench.dependsOn(f, 2), Model.depends(row, 2));
            Check.due("productsByHalves " + f, bench.productsByHalves(f), products);
            Check.due("productsBySums " + f, bench.productsBySums(f), products);
            Check.due("degreeOf " + f, bench.degreeOf(f), Model.degree(row));
            Check.due("printedLength " + f, bench.printedLength(f), Model.printed(row).length());
            Check.due("distanceByTrying " + f, bench.distanceByTrying(f), Model.distance(row));
            Check.due("distanceBySums " + f, bench.distanceBySums(f), Model.distance(row));
            Check.due("isSelfDual " + f, bench.isSelfDual(f), Model.selfDual(row));
            Check.due("isMonotone " + f, bench.isMonotone(f), Model.monotone(row));
        }
    }

    private static void wrongFunctions() {
        int[] wrong = {-1, 6, 7, 64, Integer.MIN_VALUE, Integer.MAX_VALUE};
        ZhegalkinBench bench = new ZhegalkinBench();
        for (int f : wrong) {
            Check.dueIndex("tableOf " + f, () -> bench.tableOf(f));
            Check.dueIndex("valueAt " + f, () -> bench.valueAt(f, 0));
            Check.dueIndex("weightOf " + f, () -> bench.weightOf(f));
            Check.dueIndex("dependsOn " + f, () -> bench.dependsOn(f, 0));
            Check.dueIndex("productsByHalves " + f, () -> bench.productsByHalves(f));
            Check.dueIndex("productsBySums " + f, () -> bench.productsBySums(f));
            Check.dueIndex("degreeOf " + f, () -> bench.degreeOf(f));
            Check.dueIndex("printedLength " + f, () -> bench.printedLength(f));
            Check.dueIndex("printedLetter " + f, () -> bench.printedLetter(f, 0));
            Check.dueIndex("distanceByTrying " + f, () -> bench.distanceByTrying(f));
            Check.dueIndex("distanceBySums " + f, () -> bench.distanceBySums(f));
            Check.dueIndex("isSelfDual " + f, () -> bench.isSelfDual(f));
            Check.dueIndex("isMonotone " + f, () -> bench.isMonotone(f));
        }
    }

    private static void wrongPlaces() {
        ZhegalkinBench bench = new ZhegalkinBench();
        int[] wrong = {-1, 16, Integer.MIN_VALUE, Integer.MAX_VALUE};
        for (int place : wrong) {
            Check.dueIndex("valueAt 5 " + place, () -> bench.valueAt(5, place));
            Check.dueIndex("dependsOn 5 " + place, () -> bench.dependsOn(5, place));
            Check.dueIndex("printedLetter 5 " + place, () -> bench.printedLetter(5, place));
        }
        Check.dueIndex("dependsOn 0 4", () -> bench.dependsOn(0, 4));
        Check.dueIndex("printedLetter 0 1", () -> bench.printedLetter(0, 1));
        bench.setTable(0, 1);
        bench.printedLetter(0, 47);
        Check.dueIndex("printedLetter 0 48", () -> bench.printedLetter(0, 48));
        Check.dueIndex("a longer text before", () -> bench.printedLetter(1, 5));
    }
}
