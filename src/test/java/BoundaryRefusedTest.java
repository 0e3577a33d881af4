import java.util.ArrayList;
import java.util.List;

/** A test of its own for each sentence on exceptions: what is thrown, which first, what changes. */
public final class BoundaryRefusedTest {
    public static void main(String[] args) {
        Check.sentence("There are 6 functions, 0 to 5", BoundaryRefusedTest::functionsTaken);
        Check.sentence("the one that is listed first is thrown: define",
            BoundaryRefusedTest::firstOfDefine);
        Check.sentence("the one that is listed first is thrown: setTable",
            BoundaryRefusedTest::firstOfSetTable);
        Check.sentence("the one that is listed first is thrown: join",
            BoundaryRefusedTest::firstOfJoin);
        Check.sentence("the one that is listed first is thrown: two of the same class",
            BoundaryRefusedTest::twoOfTheSameClass);
        Check.sentence("A call that throws an exception changes nothing",
            BoundaryRefusedTest::refusedChangesNothing);
        Check.sentence("A call that throws an exception changes nothing: many of them",
            BoundaryRefusedTest::manyRefusedChangeNothing);
        Check.sentence("What later calls answer after a call that throws: the same as without it",
            BoundaryRefusedTest::goesOnAfterRefused);
        Check.end();
    }

    /** Function 0 and function 5, the first and the last one, are their own places. */
    private static void functionsTaken() {
        ZhegalkinBench bench = new ZhegalkinBench();
        bench.setTable(0, 1000);
        bench.setTable(5, 1005);
        Check.due("the tables", Bench.tables(bench), "1000 52428 61680 65280 0 1005 ");
    }

    // ---- the one that is listed first

    private static void firstOfDefine() {
        for (int wrong : Wrong.FUNCTIONS) {
            Check.dueIndex("define(" + wrong + ") by no text",
                () -> new ZhegalkinBench().define(wrong));
            Check.dueIndex("define(" + wrong + ") by a+a",
                () -> Bench.withText("a+a").define(wrong));
            Check.dueIndex("define(" + wrong + ") by x", () -> Bench.withText("x").define(wrong));
            Check.dueIndex("define(" + wrong + ") by ab", () -> Bench.withText("ab").define(wrong));
        }
    }

    private static void firstOfSetTable() {
        for (int function : Wrong.FUNCTIONS) {
            for (int table : Wrong.TABLES) {
                Check.dueIndex("setTable " + function + " " + table,
                    () -> new ZhegalkinBench().setTable(function, table));
            }
        }
    }

    private static void firstOfJoin() {
        for (int function : Wrong.FUNCTIONS) {
            for (int way : Wrong.WAYS) {
                ZhegalkinBench bench = new ZhegalkinBench();
                String call = "join with " + function + " by " + way;
                Check.dueIndex(call + " as result", () -> bench.join(function, 0, 1, way));
                Check.dueIndex(call + " as one", () -> bench.join(0, function, 1, way));
                Check.dueIndex(call + " as other", () -> bench.join(0, 1, function, way));
                Check.dueIndex(call + " thrice",
                    () -> bench.join(function, function, function, way));
            }
        }
    }

    private static void twoOfTheSameClass() {
        ZhegalkinBench bench = new ZhegalkinBench();
        Check.dueIndex("fix", () -> bench.fix(6, 4, true));
        Check.dueIndex("substitute", () -> bench.substitute(-1, -1, -1));
        Check.dueIndex("substitute of a wrong variable and other", () -> bench.substitute(0, 4, 6));
        Check.dueIndex("valueAt", () -> bench.valueAt(6, 16));
        Check.dueIndex("dependsOn", () -> bench.dependsOn(-1, 4));
        Check.dueIndex("printedLetter", () -> bench.printedLetter(6, -1));
    }

    // ---- changes nothing

    /** Benches in many states: each number tells the same state each time. */
    private static final int SETTINGS = 9;

    private static ZhegalkinBench setting(int number) {
        switch (number) {
            case 0:
                return new ZhegalkinBench();
            case 1:
                return acted(Bench.withText("ab+c+"), 1);
            case 2:
                return acted(Bench.withText("a+a"), 4);
            case 3:
                return acted(Bench.withText("a".repeat(80)), 9);
            case 4:
                return undone(Bench.withText(Bench.ALL_PRODUCTS));
            case 5:
                return withSnapshot(Bench.withText("0+"), 3);
            case 6:
                return withSnapshot(Bench.withText(Bench.ALL_PRODUCTS + "+".repeat(32)), 6);
            case 7:
                return allUndone(withSnapshot(Bench.withText("d+ab"), 2));
            default:
                return allUndone(acted(Bench.withText("a+b" + "c".repeat(77)), 3));
        }
    }

    private static boolean hasSnapshot(int setting) {
        return setting >= 5 && setting <= 7;
    }

    private static ZhegalkinBench acted(ZhegalkinBench bench, int actions) {
        for (int i = 0; i < actions; i++) {
            bench.setTable(i % 6, 2000 + 311 * i);
        }
        return bench;
    }

    private static ZhegalkinBench undone(ZhegalkinBench bench) {
        acted(bench, 6);
        bench.define(3);
        bench.undo();
        bench.undo();
        return bench;
    }

    private static ZhegalkinBench allUndone(ZhegalkinBench bench) {
        for (int i = 0; i < 4 && bench.recordedStates() > 0; i++) {
            bench.undo();
        }
        return bench;
    }

    private static ZhegalkinBench withSnapshot(ZhegalkinBench bench, int actions) {
        acted(bench, 2);
        bench.takeSnapshot();
        return acted(bench, actions);
    }

    /** Calls that are refused in each state. */
    private static List<Bench.Asked> refusedAlways() {
        List<Bench.Asked> calls = new ArrayList<>();
        actionsRefused(calls);
        for (int wrong : new int[] {-1, 6}) {
            calls.add(bench -> bench.tableOf(wrong));
            calls.add(bench -> bench.valueAt(wrong, 0));
            calls.add(bench -> bench.weightOf(wrong));
            calls.add(bench -> bench.dependsOn(wrong, 0));
            calls.add(bench -> bench.productsByHalves(wrong));
            calls.add(bench -> bench.productsBySums(wrong));
            calls.add(bench -> bench.degreeOf(wrong));
            calls.add(bench -> bench.printedLength(wrong));
            calls.add(bench -> bench.printedLetter(wrong, 0));
            calls.add(bench -> bench.distanceByTrying(wrong));
            calls.add(bench -> bench.distanceBySums(wrong));
            calls.add(bench -> bench.isSelfDual(wrong));
            calls.add(bench -> bench.isMonotone(wrong));
        }
        calls.add(bench -> bench.valueAt(0, 16));
        calls.add(bench -> bench.dependsOn(0, 4));
        calls.add(bench -> bench.printedLetter(0, -1));
        calls.add(bench -> bench.printedLetter(0, 48));
        calls.add(bench -> bench.areEnough(0));
        calls.add(bench -> bench.areEnough(64));
        return calls;
    }

    private static void actionsRefused(List<Bench.Asked> calls) {
        for (int wrong : new int[] {-1, 6}) {
            calls.add(bench -> bench.define(wrong));
            calls.add(bench -> bench.setTable(wrong, 5));
            calls.add(bench -> bench.join(wrong, 0, 1, 0));
            calls.add(bench -> bench.join(0, wrong, 1, 0));
            calls.add(bench -> bench.join(0, 1, wrong, 0));
            calls.add(bench -> bench.fix(wrong, 0, true));
            calls.add(bench -> bench.substitute(wrong, 0, 1));
            calls.add(bench -> bench.substitute(0, 1, wrong));
        }
        calls.add(bench -> bench.setTable(0, -1));
        calls.add(bench -> bench.setTable(0, 65536));
        calls.add(bench -> bench.join(0, 1, 2, -1));
        calls.add(bench -> bench.join(0, 1, 2, 4));
        calls.add(bench -> bench.fix(0, -1, true));
        calls.add(bench -> bench.fix(0, 4, false));
        calls.add(bench -> bench.substitute(0, -1, 1));
        calls.add(bench -> bench.substitute(0, 4, 1));
    }

    /** Calls that are refused in this state. */
    private static List<Bench.Asked> refusedIn(int setting) {
        List<Bench.Asked> calls = refusedAlways();
        ZhegalkinBench bench = setting(setting);
        if (bench.textError() != ZhegalkinBench.NONE) {
            calls.add(other -> other.define(5));
            calls.add(ZhegalkinBench::textProducts);
        }
        if (bench.recordedStates() == 0) {
            calls.add(ZhegalkinBench::undo);
        }
        if (!hasSnapshot(setting)) {
            calls.add(ZhegalkinBench::restoreSnapshot);
        }
        if (bench.clearText() == 80) {
            calls.add(other -> other.type('a'));
        }
        return calls;
    }

    private static void refused(String where, Bench.Asked call, ZhegalkinBench bench) {
        String thrown = Check.thrownBy(() -> call.of(bench));
        Check.due(where + " is refused", thrown.equals("nothing"), false);
    }

    private static void refusedChangesNothing() {
        for (int setting = 0; setting < SETTINGS; setting++) {
            String want = Bench.everything(setting(setting));
            List<Bench.Asked> calls = refusedIn(setting);
            for (int i = 0; i < calls.size(); i++) {
                String where = "state " + setting + " call " + i;
                ZhegalkinBench bench = setting(setting);
                refused(where, calls.get(i), bench);
                Check.due(where, Bench.everything(bench), want);
            }
        }
    }

    private static void manyRefusedChangeNothing() {
        for (int setting = 0; setting < SETTINGS; setting++) {
            String want = Bench.everything(setting(setting));
            List<Bench.Asked> calls = refusedIn(setting);
            ZhegalkinBench bench = setting(setting);
            for (int round = 0; round < 5; round++) {
                for (int i = 0; i < calls.size(); i++) {
                    refused("state " + setting + " call " + i, calls.get(i), bench);
                }
            }
            Check.due("state " + setting, Bench.everything(bench), want);
        }
    }

    private static void goesOnAfterRefused() {
        for (int setting = 0; setting < SETTINGS; setting++) {
            List<Bench.Asked> calls = refusedIn(setting);
            String want = Bench.everything(gone(setting(setting)));
            for (int i = 0; i < calls.size(); i++) {
                ZhegalkinBench bench = setting(setting);
                refused("state " + setting + " call " + i, calls.get(i), bench);
                Check.due("going on in state " + setting + " after call " + i,
                    Bench.everything(gone(bench)), want);
            }
        }
    }

    private static ZhegalkinBench gone(ZhegalkinBench bench) {
        bench.setTable(4, 31);
        bench.join(5, 4, 0, ZhegalkinBench.IMPLIES);
        bench.clearText();
        Bench.type(bench, "cd+1");
        bench.define(1);
        return bench;
    }
}
