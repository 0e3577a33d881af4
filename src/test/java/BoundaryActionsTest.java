/** A test of its own for each sentence on promises 2 to 6 that names a boundary. */
public final class BoundaryActionsTest {
    public static void main(String[] args) {
        define();
        setTable();
        join();
        fix();
        substitute();
        Check.end();
    }

    private static void define() {
        Check.sentence("Promise 2: Throws IndexOutOfBoundsException if there is no such function",
            () -> Wrong.function("define", BoundaryActionsTest::definedByA));
        Check.sentence("Promise 2: Throws IllegalStateException if the text is not valid",
            BoundaryActionsTest::defineNotValid);
        Check.sentence("Promise 2: if the text is not valid: a full text",
            BoundaryActionsTest::defineByFullText);
        Check.sentence("Promise 2: The text stays as it is", BoundaryActionsTest::textStays);
        Check.sentence("Promise 2: Returns the number of its products, 0 to 16",
            BoundaryActionsTest::numberOfProducts);
        Check.sentence("Each function is the sum of just one set of products",
            BoundaryActionsTest::justOneSet);
        Check.sentence("Promise 2: Defines a function by the text, and no other one",
            BoundaryActionsTest::defineNoOther);
    }

    private static void setTable() {
        Check.sentence("Promise 3: Throws IndexOutOfBoundsException if there is no such function",
            () -> Wrong.function("setTable", (bench, f) -> bench.setTable(f, 1)));
        Check.sentence("Promise 3: table: 0 to 65535", BoundaryActionsTest::tablesTaken);
        Check.sentence("Promise 3: Throws IllegalArgumentException if table is out of range",
            BoundaryActionsTest::tablesRefused);
        Check.sentence("Promise 3: Returns the previous table", BoundaryActionsTest::previousTable);
    }

    private static void join() {
        Check.sentence("Promise 4: function: 0 to 5: becomes the result",
            () -> Wrong.function("join into", (bench, f) -> bench.join(f, 0, 1, 0)));
        Check.sentence("Promise 4: one: 0 to 5",
            () -> Wrong.function("join of one", (bench, f) -> bench.join(0, f, 1, 0)));
        Check.sentence("Promise 4: other: 0 to 5",
            () -> Wrong.function("join of other", (bench, f) -> bench.join(0, 1, f, 0)));
        Check.sentence("Promise 4: Throws IllegalArgumentException if there is no such way",
            BoundaryActionsTest::waysRefused);
        Check.sentence("Promise 4: way: PLUS, AND, OR or IMPLIES, at each pair of values",
            BoundaryActionsTest::eachWay);
        Check.sentence("IMPLIES: 0 only where the first one is 1 and the second one is 0",
            BoundaryActionsTest::implies);
        Check.sentence("Promise 4: point by point, the first and the last point too",
            BoundaryActionsTest::joinAtTheEnds);
        Check.sentence("Promise 4: the result in the place of one, of other, of both",
            BoundaryActionsTest::joinInPlace);
    }

    private static void fix() {
        Check.sentence("Promise 5: Throws ... if there is no such function",
            () -> Wrong.function("fix", (bench, f) -> bench.fix(f, 0, true)));
        Check.sentence("Promise 5: Throws ... if there is no such variable", () -> {
            Wrong.variable("fix to 0", (bench, v) -> bench.fix(0, v, false));
            Wrong.variable("fix to 1", (bench, v) -> bench.fix(0, v, true));
        });
        Check.sentence("Promise 5: isOne: whether the value is 1", BoundaryActionsTest::fixedValues);
        Check.sentence("Promise 5: the value that it had at the point in which the variable has that"
            + " value, at each point", BoundaryActionsTest::fixEachPoint);
        Check.sentence("Promise 5: a variable that the function does not depend on",
            BoundaryActionsTest::fixOfNoUse);
    }

    private static void substitute() {
        Check.sentence("Promise 6: Throws ... if there is no such function",
            () -> Wrong.function("substitute in", (bench, f) -> bench.substitute(f, 0, 1)));
        Check.sentence("Promise 6: Throws ... if there is no such function: other",
            () -> Wrong.function("substitute by", (bench, f) -> bench.substitute(1, 0, f)));
        Check.sentence("Promise 6: Throws ... if there is no such variable",
            () -> Wrong.variable("substitute", (bench, v) -> bench.substitute(0, v, 1)));
        Check.sentence("Promise 6: other: perhaps the same function",
            BoundaryActionsTest::substituteItself);
        Check.sentence("Promise 6: 0 and 1 put in do what fix does", BoundaryActionsTest::putIn0And1);
        Check.sentence("Promise 6: at each point", BoundaryActionsTest::substituteEachPoint);
        Check.sentence("Promise 6: the variable itself put in changes nothing",
            BoundaryActionsTest::putInItself);
    }

    // ---- define

    private static Object definedByA(ZhegalkinBench bench, int function) {
        bench.type('a');
        return bench.define(function);
    }

    private static void defineNotValid() {
        String[] texts = {"", "+", "a+", "a+a", "1+1", "00", "0+a", "x", "ba", "abcd+abcd", "a+b+a"};
        for (String text : texts) {
            for (int function = 0; function < 6; function++) {
                int f = function;
                Check.dueState("define(" + f + ") by '" + text + "'",
                    () -> Bench.withText(text).define(f));
            }
        }
    }

    private static void defineByFullText() {
        ZhegalkinBench bench = Bench.withText("a".repeat(80));
        Check.dueState("define", () -> bench.define(0));
        bench.clearText();
        Bench.type(bench, "b");
        Check.due("define by b", bench.define(0), 1);
    }

    private static void textStays() {
        ZhegalkinBench bench = Bench.withText("ab+1");
        Check.due("define(0)", bench.define(0), 2);
        Check.due("define(5) by the same text", bench.define(5), 2);
        Check.due("textProducts", bench.textProducts(), 9);
        bench.type('+');
        bench.type('c');
        Check.due("define(1) by a longer one", bench.define(1), 3);
        Check.due("clearText", bench.clearText(), 6);
        Check.due("the tables", Bench.tables(bench), (0x8888 ^ 0xFFFF) + " "
            + (0x8888 ^ 0xFFFF ^ 0xF0F0) + " 61680 65280 0 " + (0x8888 ^ 0xFFFF) + " ");
    }

    private static void numberOfProducts() {
        Check.due("define by 0", Bench.withText("0").define(0), 0);
        Check.due("define by 1", Bench.withText("1").define(0), 1);
        Check.due("define by abcd", Bench.withText("abcd").define(0), 1);
        ZhegalkinBench bench = Bench.withText(Bench.ALL_PRODUCTS);
        Check.due("define by all", bench.define(0), 16);
        Check.due("the table of all", bench.tableOf(0), 1);
    }

    /** No table comes of two sets of products, so each of the 65536 comes of one. */
    private static void justOneSet() {
        boolean[] seen = new boolean[65536];
        for (int products = 0; products < 65536; products++) {
            StringBuilder text = new StringBuilder();
            for (int product = 15; product >= 0; product--) {
                if ((products >> product & 1) == 1) {
                    text.append(text.length() == 0 ? "" : "+").append(Model.PRODUCTS[product]);
                }
            }
            ZhegalkinBench bench = Bench.withText(products == 0 ? "0" : text.toString());
            bench.define(0);
            int table = bench.tableOf(0);
            Check.due("a second set for the table " + table, seen[table], false);
            seen[table] = true;
            Check.due("productsByHalves", bench.productsByHalves(0), products);
        }
    }

    private static void defineNoOther() {
        for (int function = 0; function < 6; function++) {
            ZhegalkinBench bench = Bench.withText("abcd");
            bench.define(function);
            String[] want = {"43690", "52428", "61680", "65280", "0", "65535"};
            want[function] = "32768";
            Check.due("the tables", Bench.tables(bench), String.join(" ", want) + " ");
        }
    }

    // ---- setTable

    private static void tablesTaken() {
        for (int table : new int[] {0, 1, 2, 32767, 32768, 65534, 65535}) {
            ZhegalkinBench bench = new ZhegalkinBench();
            bench.setTable(0, table);
            Check.due("tableOf", bench.tableOf(0), table);
            bench.setTable(5, table);
            Check.due("tableOf(5)", bench.tableOf(5), table);
        }
    }

    private static void tablesRefused() {
        for (int table : Wrong.TABLES) {
            ZhegalkinBench bench = new ZhegalkinBench();
            Check.dueArgument("setTable to " + table, () -> bench.setTable(0, table));
            Check.dueArgument("setTable(5) to " + table, () -> bench.setTable(5, table));
            Check.due("tableOf", bench.tableOf(0), 43690);
        }
    }

    private static void previousTable() {
        int[] first = {43690, 52428, 61680, 65280, 0, 65535};
        for (int function = 0; function < 6; function++) {
            ZhegalkinBench bench = new ZhegalkinBench();
            Check.due("setTable", bench.setTable(function, 65535), first[function]);
            Check.due("setTable to 0", bench.setTable(function, 0), 65535);
            Check.due("setTable to 0 again", bench.setTable(function, 0), 0);
            bench.undo();
            bench.undo();
            Check.due("setTable after undo", bench.setTable(function, 5), 65535);
        }
    }

    // ---- join

    private static void waysRefused() {
        for (int way : Wrong.WAYS) {
            ZhegalkinBench bench = new ZhegalkinBench();
            Check.dueArgument("join by " + way, () -> bench.join(0, 1, 2, way));
            Check.dueArgument("join by " + way + " of 5", () -> bench.join(5, 5, 5, way));
        }
        for (int way = 0; way <= 3; way++) {
            int taken = way;
            Check.dueNoThrow("join by " + way, () -> new ZhegalkinBench().join(0, 1, 2, taken));
        }
    }

    /** The values of 0 and 0, 1 and 0, 0 and 1, 1 and 1, at the points 0 to 3 of a and b. */
    private static void eachWay() {
        int[] ways = {ZhegalkinBench.PLUS, ZhegalkinBench.AND, ZhegalkinBench.OR, ZhegalkinBench.IMPLIES};
        String[] want = {"0110", "0001", "0111", "1011"};
        for (int i = 0; i < 4; i++) {
            ZhegalkinBench bench = new ZhegalkinBench();
            bench.join(4, 0, 1, ways[i]);
            StringBuilder values = new StringBuilder();
            for (int point = 0; point < 4; point++) {
                values.append(bench.valueAt(4, point));
            }
            Check.due("way " + ways[i], values.toString(), want[i]);
        }
    }

    private static void implies() {
        ZhegalkinBench bench = new ZhegalkinBench();
        Check.due("0 implies 0", bench.join(0, 4, 4, ZhegalkinBench.IMPLIES), 65535);
        Check.due("0 implies 1", bench.join(0, 4, 5, ZhegalkinBench.IMPLIES), 65535);
        Check.due("1 implies 0", bench.join(0, 5, 4, ZhegalkinBench.IMPLIES), 0);
        Check.due("1 implies 1", bench.join(0, 5, 5, ZhegalkinBench.IMPLIES), 65535);
        Check.due("c implies d", bench.join(0, 2, 3, ZhegalkinBench.IMPLIES), 0xFF0F);
        Check.due("d implies c", bench.join(0, 3, 2, ZhegalkinBench.IMPLIES), 0xF0FF);
    }

    private static void joinAtTheEnds() {
        ZhegalkinBench bench = new ZhegalkinBench();
        bench.setTable(0, 0x8001);
        bench.setTable(1, 0x8000);
        Check.due("PLUS", bench.join(2, 0, 1, ZhegalkinBench.PLUS), 0x0001);
        Check.due("AND", bench.join(2, 0, 1, ZhegalkinBench.AND), 0x8000);
        Check.due("OR", bench.join(2, 0, 1, ZhegalkinBench.OR), 0x8001);
        Check.due("IMPLIES", bench.join(2, 0, 1, ZhegalkinBench.IMPLIES), 0xFFFE);
        Check.due("tableOf", bench.tableOf(2), 0xFFFE);
    }

    private static void joinInPlace() {
        ZhegalkinBench bench = new ZhegalkinBench();
        Check.due("into one", bench.join(0, 0, 1, ZhegalkinBench.IMPLIES), 0xDDDD);
        Check.due("into other", bench.join(3, 2, 3, ZhegalkinBench.IMPLIES), 0xFF0F);
        Check.due("into both", bench.join(1, 1, 1, ZhegalkinBench.PLUS), 0);
        Check.due("of one function twice", bench.join(4, 2, 2, ZhegalkinBench.AND), 0xF0F0);
        Check.due("the tables", Bench.tables(bench),
            0xDDDD + " 0 61680 " + 0xFF0F + " " + 0xF0F0 + " 65535 ");
    }

    // ---- fix

    private static void fixedValues() {
        for (int variable = 0; variable < 4; variable++) {
            ZhegalkinBench bench = new ZhegalkinBench();
            Check.due("fixed to 1", bench.fix(variable, variable, true), 65535);
            bench.undo();
            Check.due("fixed to 0", bench.fix(variable, variable, false), 0);
            Check.due("tableOf", bench.tableOf(variable), 0);
        }
    }

    /** A function that is 1 at one point alone, each variable, each value. */
    private static void fixEachPoint() {
        for (int point = 0; point < 16; point++) {
            for (int variable = 0; variable < 4; variable++) {
                int bit = 1 << variable;
                boolean isOneThere = (point & bit) != 0;
                int both = 1 << point | 1 << (point ^ bit);
                ZhegalkinBench bench = Bench.withTable(1 << point);
                String call = "point " + point + " variable " + variable;
                Check.due(call + " to 1", bench.fix(4, variable, true), isOneThere ? both : 0);
                bench.undo();
                Check.due(call + " to 0", bench.fix(4, variable, false), isOneThere ? 0 : both);
            }
        }
    }

    private static void fixOfNoUse() {
        ZhegalkinBench bench = new ZhegalkinBench();
        Check.due("d with a = 1", bench.fix(3, 0, true), 65280);
        Check.due("a with d = 0", bench.fix(0, 3, false), 43690);
        Check.due("0 with b = 1", bench.fix(4, 1, true), 0);
        Check.due("1 with c = 0", bench.fix(5, 2, false), 65535);
        Check.due("recordedStates", bench.recordedStates(), 4);
    }

    // ---- substitute

    private static void substituteItself() {
        for (int table = 0; table < 65536; table += 13) {
            for (int variable = 0; variable < 4; variable++) {
                int want = 0;
                for (int point = 0; point < 16; point++) {
                    int without = point & ~(1 << variable);
                    int moved = without | (table >> point & 1) << variable;
                    want |= (table >> moved & 1) << point;
                }
                ZhegalkinBench bench = Bench.withTable(table);
                String call = table + " in itself for " + variable;
                Check.due(call, bench.substitute(4, variable, 4), want);
                Check.due("tableOf after " + call, bench.tableOf(4), want);
            }
        }
    }

    private static void putIn0And1() {
        for (int table : new int[] {0, 1, 0x8000, 0x1234, 0x6996, 0xFFFE, 0xFFFF}) {
            for (int variable = 0; variable < 4; variable++) {
                ZhegalkinBench bench = new ZhegalkinBench();
                bench.setTable(0, table);
                int with0 = bench.fix(0, variable, false);
                bench.undo();
                int with1 = bench.fix(0, variable, true);
                bench.undo();
                Check.due("0 put in", bench.substitute(0, variable, 4), with0);
                bench.undo();
                Check.due("1 put in", bench.substitute(0, variable, 5), with1);
            }
        }
    }

    /** For each variable, a function that is it, and one that is 1 at a single point put in. */
    private static void substituteEachPoint() {
        for (int point = 0; point < 16; point++) {
            for (int variable = 0; variable < 4; variable++) {
                ZhegalkinBench bench = Bench.withTable(1 << point);
                Check.due("point " + point + " for variable " + variable,
                    bench.substitute(variable, variable, 4), 1 << point);
                Check.due("the function put in", bench.tableOf(4), 1 << point);
            }
        }
    }

    private static void putInItself() {
        for (int table : new int[] {0, 1, 0x8000, 0x1234, 0x6996, 0xFFFE, 0xFFFF}) {
            for (int variable = 0; variable < 4; variable++) {
                ZhegalkinBench bench = Bench.withTable(table);
                Check.due("substitute", bench.substitute(4, variable, variable), table);
                Check.due("recordedStates", bench.recordedStates(), 2);
            }
        }
    }
}
