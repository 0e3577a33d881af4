/** Promises 1 to 6: a new object and the actions. */
public final class ActionsTest {
    private static final int[] TABLES = {
        0, 1, 0x8000, 0xFFFF, 0x7FFF, 0xAAAA, 0xCCCC, 0xF0F0, 0xFF00, 0x6996, 0xE8E8, 0x1234,
        0xBEEF, 0x0F1E, 0x8001, 0x5A3C, 0xFEE8, 0x7777
    };

    public static void main(String[] args) {
        newObject();
        define();
        defineAllSets();
        defineRefused();
        setTable();
        join();
        joinAllWays();
        fix();
        substitute();
        halvesOfManyTables();
        refusedChangeNothing();
        Check.end();
    }

    private static void newObject() {
        ZhegalkinBench bench = new ZhegalkinBench();
        int[] tables = {43690, 52428, 61680, 65280, 0, 65535};
        for (int f = 0; f < 6; f++) {
            Check.due("new: tableOf(" + f + ")", bench.tableOf(f), tables[f]);
        }
        Check.due("new: recordedStates", bench.recordedStates(), 0);
        Check.due("new: textError", bench.textError(), 0);
        Check.due("new: clearText", bench.clearText(), 0);
        Check.dueState("new: undo", bench::undo);
        Check.dueState("new: restoreSnapshot", bench::restoreSnapshot);
    }

    private static void define() {
        ZhegalkinBench bench = Bench.withText("ab+c+1");
        Check.due("define(0)", bench.define(0), 3);
        Check.due("table of ab+c+1", bench.tableOf(0), 0x8888 ^ 0xF0F0 ^ 0xFFFF);
        Check.due("define records", bench.recordedStates(), 1);
        Check.due("define keeps the text", bench.clearText(), 6);
        bench.type('0');
        Check.due("define(5) by 0", bench.define(5), 0);
        Check.due("table of 0", bench.tableOf(5), 0);
        Check.due("others stay", bench.tableOf(1), 52428);
        bench.clearText();
        bench.type('1');
        Check.due("define(3) by 1", bench.define(3), 1);
        Check.due("table of 1", bench.tableOf(3), 65535);
        bench.undo();
        Check.due("undo of define", bench.tableOf(3), 65280);
    }

    private static void defineAllSets() {
        for (int products = 0; products < 65536; products++) {
            boolean[] row = Model.sumOf(Model.valuesOf(products));
            ZhegalkinBench bench = Bench.withText(Model.printed(row));
            Check.due("define by products " + products, bench.define(2), Integer.bitCount(products));
            Check.due("its table", bench.tableOf(2), Model.numberOf(row));
            Check.due("its textProducts", bench.textProducts(), products);
        }
    }

    private static void defineRefused() {
        ZhegalkinBench bench = new ZhegalkinBench();
        Check.dueState("define(0) by no text", () -> bench.define(0));
        Check.dueIndex("define(6) by no text", () -> bench.define(6));
        Check.dueIndex("define(-1) by no text", () -> bench.define(-1));
        Bench.type(bench, "a+a");
        Check.dueState("define(5) by a+a", () -> bench.define(5));
        Check.dueIndex("define(6) by a+a", () -> bench.define(6));
        bench.type('b');
        Check.dueIndex("define(6) by a+ab", () -> bench.define(6));
        Check.due("none of them recorded", bench.recordedStates(), 0);
        Check.due("define(5) by a+ab", bench.define(5), 2);
    }

    private static void setTable() {
        ZhegalkinBench bench = new ZhegalkinBench();
        Check.due("setTable(0, 65535)", bench.setTable(0, 65535), 43690);
        Check.due("setTable(0, 0)", bench.setTable(0, 0), 65535);
        Check.due("setTable(0, 7)", bench.setTable(0, 7), 0);
        Check.due("tableOf(0)", bench.tableOf(0), 7);
        Check.due("setTable(5, 9)", bench.setTable(5, 9), 65535);
        Check.due("setTable records", bench.recordedStates(), 4);
        Check.dueArgument("setTable(0, -1)", () -> bench.setTable(0, -1));
        Check.dueArgument("setTable(0, 65536)", () -> bench.setTable(0, 65536));
        Check.dueArgument("setTable(0, MIN)", () -> bench.setTable(0, Integer.MIN_VALUE));
        Check.dueIndex("setTable(6, 0)", () -> bench.setTable(6, 0));
        Check.dueIndex("setTable(-1, 0)", () -> bench.setTable(-1, 0));
        Check.dueIndex("setTable(6, 65536)", () -> bench.setTable(6, 65536));
        bench.undo();
        Check.due("undo of setTable", bench.tableOf(5), 65535);
    }

    private static void join() {
        ZhegalkinBench bench = new ZhegalkinBench();
        Check.due("a plus b", bench.join(4, 0, 1, 0), 0x6666);
        Check.due("a and b", bench.join(4, 0, 1, 1), 0x8888);
        Check.due("a or b", bench.join(4, 0, 1, 2), 0xEEEE);
        Check.due("a implies b", bench.join(4, 0, 1, 3), 0xDDDD);
        Check.due("b implies a", bench.join(4, 1, 0, 3), 0xBBBB);
        Check.due("tableOf(4)", bench.tableOf(4), 0xBBBB);
        Check.due("c plus c into c", bench.join(2, 2, 2, 0), 0);
        Check.due("join records", bench.recordedStates(), 4);
        Check.dueArgument("way 4", () -> bench.join(0, 0, 0, 4));
        Check.dueArgument("way -1", () -> bench.join(0, 0, 0, -1));
        Check.dueIndex("function 6", () -> bench.join(6, 0, 0, 0));
        Check.dueIndex("function -1", () -> bench.join(-1, 0, 0, 9));
        Check.dueIndex("one 6", () -> bench.join(0, 6, 0, 0));
        Check.dueIndex("one -1", () -> bench.join(0, -1, 0, 4));
        Check.dueIndex("other 6", () -> bench.join(0, 0, 6, 0));
        Check.dueIndex("other -1, way 4", () -> bench.join(0, 0, -1, 4));
    }

    private static void joinAllWays() {
        for (int one : TABLES) {
            for (int other : TABLES) {
                for (int way = 0; way < 4; way++) {
                    Model model = new Model();
                    model.put(1, Model.valuesOf(one));
                    model.put(2, Model.valuesOf(other));
                    ZhegalkinBench bench = new ZhegalkinBench();
                    bench.setTable(1, one);
                    bench.setTable(2, other);
                    int want = Model.numberOf(model.joined(1, 2, way));
                    String call = one + " " + other + " by way " + way;
                    Check.due("join " + call, bench.join(1, 1, 2, way), want);
                    Check.due("joined " + call, bench.tableOf(1), want);
                    Check.due("other of " + call, bench.tableOf(2), other);
                }
            }
        }
    }

    private static void fix() {
        ZhegalkinBench bench = new ZhegalkinBench();
        Check.due("a with a = 1", bench.fix(0, 0, true), 65535);
        Check.due("b with b = 0", bench.fix(1, 1, false), 0);
        Check.due("c with a = 1", bench.fix(2, 0, true), 61680);
        bench.setTable(4, 0x8000);
        Check.due("abcd with d = 1", bench.fix(4, 3, true), 0x8080);
        Check.due("abc with c = 0", bench.fix(4, 2, false), 0);
        Check.due("fix records, even where nothing becomes other", bench.recordedStates(), 4);
        bench.undo();
        Check.due("undo of fix", bench.tableOf(4), 0x8080);
        Check.dueIndex("fix(6, 0)", () -> bench.fix(6, 0, true));
        Check.dueIndex("fix(-1, 0)", () -> bench.fix(-1, 0, true));
        Check.dueIndex("fix(0, 4)", () -> bench.fix(0, 4, false));
        Check.dueIndex("fix(0, -1)", () -> bench.fix(0, -1, false));
    }

    private static void substitute() {
        ZhegalkinBench bench = new ZhegalkinBench();
        Check.due("b for a in a", bench.substitute(0, 0, 1), 52428);
        Check.due("1 for b in b", bench.substitute(1, 1, 5), 65535);
        bench.setTable(4, 0x8888);
        Check.due("ab for a in ab", bench.substitute(4, 0, 4), 0x8888);
        bench.setTable(4, 0x6666);
        Check.due("a+b for a in a+b", bench.substitute(4, 0, 4), 0xAAAA);
        Check.due("substitute records", bench.recordedStates(), 4);
        bench.undo();
        Check.due("undo of substitute", bench.tableOf(4), 0x6666);
        Check.dueIndex("substitute(6, 0, 0)", () -> bench.substitute(6, 0, 0));
        Check.dueIndex("substitute(-1, 0, 0)", () -> bench.substitute(-1, 0, 0));
        Check.dueIndex("substitute(0, 4, 0)", () -> bench.substitute(0, 4, 0));
        Check.dueIndex("substitute(0, -1, 0)", () -> bench.substitute(0, -1, 0));
        Check.dueIndex("substitute(0, 0, 6)", () -> bench.substitute(0, 0, 6));
        Check.dueIndex("substitute(0, 0, -1)", () -> bench.substitute(0, 0, -1));
    }

    private static void halvesOfManyTables() {
        for (int table : TABLES) {
            for (int other : TABLES) {
                for (int variable = 0; variable < 4; variable++) {
                    Model model = new Model();
                    model.put(4, Model.valuesOf(table));
                    model.put(5, Model.valuesOf(other));
                    ZhegalkinBench bench = Bench.withTable(table);
                    bench.setTable(5, other);
                    String call = table + " " + variable + " " + other;
                    Check.due("substitute " + call, bench.substitute(4, variable, 5),
                        Model.numberOf(model.substituted(4, variable, 5)));
                    bench.undo();
                    Check.due("itself " + call, bench.substitute(4, variable, 4),
                        Model.numberOf(model.substituted(4, variable, 4)));
                    bench.undo();
                    Check.due("fix 1 " + call, bench.fix(4, variable, true),
                        Model.numberOf(model.fixed(4, variable, true)));
                    bench.undo();
                    Check.due("fix 0 " + call, bench.fix(4, variable, false),
                        Model.numberOf(model.fixed(4, variable, false)));
                    Check.due("fixed 0 " + call, bench.tableOf(4),
                        Model.numberOf(model.fixed(4, variable, false)));
                }
            }
        }
    }

    private static void refusedChangeNothing() {
        ZhegalkinBench bench = Bench.withText("ab+");
        bench.setTable(4, 0x1234);
        String before = Bench.state(bench);
        Check.dueState("define", () -> bench.define(4));
        Check.dueArgument("setTable", () -> bench.setTable(4, 65536));
        Check.dueArgument("join", () -> bench.join(4, 0, 1, 4));
        Check.dueIndex("join", () -> bench.join(4, 0, 6, 0));
        Check.dueIndex("fix", () -> bench.fix(4, 4, true));
        Check.dueIndex("substitute", () -> bench.substitute(4, 0, 6));
        Check.dueState("restoreSnapshot", bench::restoreSnapshot);
        Check.due("the state", Bench.state(bench), before);
        bench.undo();
        String undone = Bench.state(bench);
        Check.dueState("undo", bench::undo);
        Check.due("the state undone", Bench.state(bench), undone);
    }
}
