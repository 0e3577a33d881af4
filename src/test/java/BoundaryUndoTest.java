import java.util.ArrayList;
import java.util.List;

/**
 * A test of its own for each sentence on undo and the snapshot, and on promises 1, 11, 12, 13 and
 * 29, that names a boundary.
 */
public final class BoundaryUndoTest {
    public static void main(String[] args) {
        uses();
        recording();
        theState();
        promise11();
        promises12And13();
        promise29();
        Check.end();
    }

    private static void uses() {
        Check.sentence("An object is used for at most 512 calls: actions", BoundaryUndoTest::actions512);
        Check.sentence("An object is used for at most 512 calls: undo and redo",
            BoundaryUndoTest::undos512);
        Check.sentence("An object is used for at most 512 calls: characters",
            BoundaryUndoTest::characters512);
        Check.sentence("An object is used for at most 512 calls: refused calls",
            BoundaryUndoTest::refused512);
        Check.sentence("Promise 1: Creates a bench: nothing recorded, no snapshot, no text",
            BoundaryUndoTest::newBench);
        Check.sentence("Promise 1: Creates a bench, apart from all others",
            BoundaryUndoTest::twoBenches);
    }

    private static void recording() {
        Check.sentence("Each successful call of a method that is described as an action first records"
            + " the current state", BoundaryUndoTest::eachActionRecords);
        Check.sentence("Each successful call ... records, one that makes nothing other too",
            BoundaryUndoTest::idleActionsRecord);
        Check.sentence("Each successful call: a refused one records nothing",
            BoundaryUndoTest::refusedRecordNothing);
        Check.sentence("a method that is described as an action: no other one records",
            BoundaryUndoTest::othersRecordNothing);
        Check.sentence("only the latest 4 recorded states are kept", BoundaryUndoTest::latestFour);
        Check.sentence("only the latest 4: not fewer", BoundaryUndoTest::fourAreKept);
        Check.sentence("only the latest 4, after undo too", BoundaryUndoTest::allMixesOfUndo);
    }

    private static void theState() {
        Check.sentence("The state consists of everything: all 6 functions",
            BoundaryUndoTest::allSixFunctions);
        Check.sentence("except the text", BoundaryUndoTest::exceptTheText);
        Check.sentence("except ... the recorded states", BoundaryUndoTest::exceptTheRecorded);
        Check.sentence("except ... the snapshot", BoundaryUndoTest::exceptTheSnapshot);
    }

    private static void promise11() {
        Check.sentence("Promise 11: Returns to the state that was recorded last, and discards it",
            BoundaryUndoTest::undoDiscards);
        Check.sentence("Promise 11: Returns the number of recorded states that are left, 0 at last",
            BoundaryUndoTest::undoCounts);
        Check.sentence("Promise 11: Throws IllegalStateException if no state is recorded",
            BoundaryUndoTest::undoRefused);
        Check.sentence("Promise 11: undo itself is no action", BoundaryUndoTest::undoIsNoAction);
    }

    private static void promises12And13() {
        Check.sentence("Promise 12: which replaces the previous snapshot",
            BoundaryUndoTest::snapshotReplaces);
        Check.sentence("Promise 12: Returns the number of products of all functions, none at least",
            BoundaryUndoTest::noProducts);
        Check.sentence("Promise 12: Returns the number of products of all functions, 96 at most",
            BoundaryUndoTest::mostProducts);
        Check.sentence("Promise 12: a product of several functions counts for each of them",
            BoundaryUndoTest::sameProducts);
        Check.sentence("Promise 13: the snapshot, which is kept", BoundaryUndoTest::snapshotIsKept);
        Check.sentence("Promise 13: This is an action", BoundaryUndoTest::restoreIsAnAction);
        Check.sentence("Promise 13: Returns the number of products of all functions afterwards",
            BoundaryUndoTest::productsAfterwards);
        Check.sentence("Promise 13: Throws IllegalStateException if there is no snapshot",
            BoundaryUndoTest::restoreRefused);
    }

    private static void promise29() {
        Check.sentence("Promise 29: Returns the number of recorded states, 0 at first",
            () -> Check.due("recordedStates", new ZhegalkinBench().recordedStates(), 0));
        Check.sentence("Promise 29: Returns the number of recorded states, 4 at most",
            BoundaryUndoTest::recordedUpToFour);
    }

    // ---- 512 calls

    private static void actions512() {
        ZhegalkinBench bench = new ZhegalkinBench();
        for (int call = 1; call <= 507; call++) {
            bench.setTable(call % 6, call);
        }
        for (int left = 3; left >= 0; left--) {
            Check.due("undo", bench.undo(), left);
        }
        // The 512th call: the last setTable of function 5 that was not undone is number 503.
        Check.due("tableOf", bench.tableOf(5), 503);
    }

    private static void undos512() {
        ZhegalkinBench bench = new ZhegalkinBench();
        bench.setTable(0, 9);
        for (int round = 0; round < 170; round++) {
            Check.due("setTable " + round, bench.setTable(0, 100 + round), 9);
            Check.due("recordedStates " + round, bench.recordedStates(), 2);
            Check.due("undo " + round, bench.undo(), 1);
        }
        Check.due("the last undo", bench.undo(), 0);
    }

    private static void characters512() {
        ZhegalkinBench bench = new ZhegalkinBench();
        for (int round = 0; round < 6; round++) {
            for (int length = 1; length <= 80; length++) {
                Check.due("type", bench.type('b'), length);
            }
            Check.due("clearText", bench.clearText(), 80);
        }
        for (int length = 1; length <= 26; length++) {
            Check.due("type", bench.type('b'), length);
        }
    }

    private static void refused512() {
        ZhegalkinBench bench = new ZhegalkinBench();
        for (int call = 0; call < 511; call++) {
            Check.dueIndex("setTable", () -> bench.setTable(6, 0));
        }
        Check.due("recordedStates", bench.recordedStates(), 0);
    }

    // ---- promise 1

    private static void newBench() {
        ZhegalkinBench bench = new ZhegalkinBench();
        Check.due("everything", Bench.everything(bench), "43690 52428 61680 65280 0 65535 "
            + "error 0 not valid length 0 recorded 0: no snapshot");
    }

    private static void twoBenches() {
        ZhegalkinBench one = new ZhegalkinBench();
        ZhegalkinBench other = new ZhegalkinBench();
        String before = Bench.everything(new ZhegalkinBench());
        Bench.type(one, "ab");
        one.define(0);
        one.takeSnapshot();
        one.setTable(1, 5);
        one.distanceBySums(3);
        one.printedLength(1);
        Check.due("everything of the other one", Bench.everything(other), before);
        Check.due("everything of a later one", Bench.everything(new ZhegalkinBench()), before);
    }

    // ---- recording

    /** Each action, so that it makes a change on a bench with the text "ab" and a snapshot. */
    private static List<Bench.Asked> actions() {
        List<Bench.Asked> actions = new ArrayList<>();
        actions.add(bench -> bench.define(5));
        actions.add(bench -> bench.setTable(4, 77));
        actions.add(bench -> bench.join(3, 0, 1, ZhegalkinBench.OR));
        actions.add(bench -> bench.fix(2, 2, true));
        actions.add(bench -> bench.substitute(1, 1, 0));
        actions.add(bench -> bench.restoreSnapshot());
        return actions;
    }

    private static ZhegalkinBench ready() {
        ZhegalkinBench bench = Bench.withText("ab");
        bench.setTable(0, 0x1234);
        bench.takeSnapshot();
        bench.undo();
        return bench;
    }

    private static void eachActionRecords() {
        List<Bench.Asked> actions = actions();
        for (int i = 0; i < actions.size(); i++) {
            ZhegalkinBench bench = ready();
            String before = Bench.tables(bench);
            actions.get(i).of(bench);
            Check.due("a change by action " + i, !Bench.tables(bench).equals(before), true);
            Check.due("recordedStates of action " + i, bench.recordedStates(), 1);
            bench.undo();
            Check.due("the tables of before action " + i, Bench.tables(bench), before);
        }
    }

    private static void idleActionsRecord() {
        ZhegalkinBench bench = Bench.withText("a");
        String before = Bench.tables(bench);
        bench.define(0);
        Check.due("define", bench.recordedStates(), 1);
        bench.setTable(1, 52428);
        Check.due("setTable", bench.recordedStates(), 2);
        bench.join(2, 2, 2, ZhegalkinBench.AND);
        Check.due("join", bench.recordedStates(), 3);
        bench.fix(5, 0, false);
        Check.due("fix", bench.recordedStates(), 4);
        ZhegalkinBench other = new ZhegalkinBench();
        other.substitute(3, 3, 3);
        Check.due("substitute", other.recordedStates(), 1);
        other.takeSnapshot();
        other.restoreSnapshot();
        Check.due("restoreSnapshot", other.recordedStates(), 2);
        Check.due("the tables", Bench.tables(bench), before);
        Check.due("the tables of the other one", Bench.tables(other), before);
    }

    private static void refusedRecordNothing() {
        ZhegalkinBench bench = Bench.withText("a+a");
        bench.setTable(0, 1);
        Check.dueState("define", () -> bench.define(0));
        Check.dueIndex("define(6)", () -> bench.define(6));
        Check.dueArgument("setTable", () -> bench.setTable(0, -1));
        Check.dueArgument("join", () -> bench.join(0, 1, 2, 4));
        Check.dueIndex("fix", () -> bench.fix(0, 4, true));
        Check.dueIndex("substitute", () -> bench.substitute(0, 0, 6));
        Check.dueState("restoreSnapshot", bench::restoreSnapshot);
        Check.due("recordedStates", bench.recordedStates(), 1);
    }

    private static List<Bench.Asked> noActions() {
        List<Bench.Asked> calls = new ArrayList<>();
        calls.add(bench -> bench.type('b'));
        calls.add(bench -> bench.clearText());
        calls.add(bench -> bench.textError());
        calls.add(bench -> bench.textProducts());
        calls.add(bench -> bench.takeSnapshot());
        calls.add(bench -> bench.tableOf(0));
        calls.add(bench -> bench.valueAt(0, 0));
        calls.add(bench -> bench.weightOf(0));
        calls.add(bench -> bench.dependsOn(0, 0));
        calls.add(bench -> bench.productsByHalves(0));
        calls.add(bench -> bench.productsBySums(0));
        calls.add(bench -> bench.degreeOf(0));
        calls.add(bench -> bench.printedLength(0));
        calls.add(bench -> bench.printedLetter(0, 0));
        calls.add(bench -> bench.distanceByTrying(0));
        calls.add(bench -> bench.distanceBySums(0));
        calls.add(bench -> bench.isSelfDual(0));
        calls.add(bench -> bench.isMonotone(0));
        calls.add(bench -> bench.areEnough(1));
        calls.add(bench -> bench.fewestEnough());
        calls.add(bench -> bench.recordedStates());
        return calls;
    }

    private static void othersRecordNothing() {
        List<Bench.Asked> calls = noActions();
        for (int i = 0; i < calls.size(); i++) {
            for (int recorded = 0; recorded <= 4; recorded++) {
                ZhegalkinBench bench = Bench.withText("a");
                for (int action = 0; action < recorded; action++) {
                    bench.setTable(action, 100 + action);
                }
                String before = Bench.tables(bench);
                calls.get(i).of(bench);
                Check.due("recordedStates of call " + i, bench.recordedStates(), recorded);
                Check.due("the tables of call " + i, Bench.tables(bench), before);
            }
        }
    }

    private static void latestFour() {
        ZhegalkinBench bench = new ZhegalkinBench();
        for (int i = 1; i <= 5; i++) {
            bench.setTable(0, i);
        }
        for (int left = 3; left >= 0; left--) {
            Check.due("undo", bench.undo(), left);
        }
        // The state before the first setTable, the fifth from the end, is gone.
        Check.due("tableOf", bench.tableOf(0), 1);
        Check.dueState("a fifth undo", bench::undo);
    }

    private static void fourAreKept() {
        ZhegalkinBench bench = new ZhegalkinBench();
        for (int i = 1; i <= 4; i++) {
            bench.setTable(0, i);
        }
        for (int left = 3; left >= 0; left--) {
            Check.due("undo", bench.undo(), left);
            Check.due("tableOf", bench.tableOf(0), left == 0 ? 43690 : left);
        }
    }

    /** All rows of 11 steps, each of them an action or an undo. */
    private static void allMixesOfUndo() {
        for (int row = 0; row < 1 << 11; row++) {
            ZhegalkinBench bench = new ZhegalkinBench();
            List<Integer> recorded = new ArrayList<>();
            int table = 0;
            for (int step = 0; step < 11; step++) {
                String where = "row " + row + " step " + step;
                if ((row >> step & 1) == 1) {
                    recorded.add(table);
                    if (recorded.size() > 4) {
                        recorded.remove(0);
                    }
                    Check.due(where, bench.setTable(4, 1000 + step), table);
                    table = 1000 + step;
                } else if (recorded.isEmpty()) {
                    Check.dueState(where, bench::undo);
                } else {
                    table = recorded.remove(recorded.size() - 1);
                    Check.due(where, bench.undo(), recorded.size());
                }
                Check.due(where + " tableOf", bench.tableOf(4), table);
                Check.due(where + " recordedStates", bench.recordedStates(), recorded.size());
            }
        }
    }

    // ---- the state

    private static void allSixFunctions() {
        for (int function = 0; function < 6; function++) {
            ZhegalkinBench bench = new ZhegalkinBench();
            for (int f = 0; f < 6; f++) {
                bench.setTable(f, 7000 + f);
            }
            String before = Bench.tables(bench);
            bench.takeSnapshot();
            bench.setTable(function, 1);
            Check.due("tableOf", bench.tableOf(function), 1);
            bench.undo();
            Check.due("the tables after undo", Bench.tables(bench), before);
            bench.setTable(function, 2);
            bench.restoreSnapshot();
            Check.due("the tables after restoreSnapshot", Bench.tables(bench), before);
        }
    }

    private static void exceptTheText() {
        ZhegalkinBench bench = Bench.withText("ab");
        bench.takeSnapshot();
        bench.define(0);
        bench.type('+');
        bench.undo();
        Check.due("textError after undo", bench.textError(), 3);
        bench.type('c');
        bench.restoreSnapshot();
        Check.due("textProducts after restoreSnapshot", bench.textProducts(), 1 << 3 | 1 << 4);
        bench.clearText();
        bench.undo();
        Check.due("clearText after undo", bench.clearText(), 0);
        bench.restoreSnapshot();
        Check.due("clearText after restoreSnapshot", bench.clearText(), 0);
    }

    private static void exceptTheRecorded() {
        ZhegalkinBench bench = new ZhegalkinBench();
        bench.setTable(0, 1);
        bench.takeSnapshot();
        bench.setTable(0, 2);
        bench.setTable(0, 3);
        // Had the snapshot the recorded states in it, there would be one or two afterwards.
        bench.restoreSnapshot();
        Check.due("recordedStates", bench.recordedStates(), 4);
        Check.due("undo", bench.undo(), 3);
        Check.due("tableOf", bench.tableOf(0), 3);
        bench.undo();
        bench.takeSnapshot();
        Check.due("recordedStates after takeSnapshot", bench.recordedStates(), 2);
        bench.undo();
        bench.undo();
        Check.due("tableOf at first", bench.tableOf(0), 43690);
        bench.restoreSnapshot();
        Check.due("recordedStates after restoreSnapshot", bench.recordedStates(), 1);
    }

    private static void exceptTheSnapshot() {
        ZhegalkinBench bench = new ZhegalkinBench();
        bench.setTable(0, 1);
        bench.takeSnapshot();
        bench.undo();
        // The state before the first snapshot has come back, the snapshot stays.
        bench.restoreSnapshot();
        Check.due("tableOf", bench.tableOf(0), 1);
        bench.setTable(0, 2);
        bench.takeSnapshot();
        bench.undo();
        bench.undo();
        bench.restoreSnapshot();
        Check.due("tableOf by the newer snapshot", bench.tableOf(0), 2);
    }

    // ---- promise 11

    private static void undoDiscards() {
        ZhegalkinBench bench = new ZhegalkinBench();
        bench.setTable(2, 10);
        bench.setTable(2, 20);
        bench.setTable(2, 30);
        bench.undo();
        Check.due("tableOf after one undo", bench.tableOf(2), 20);
        bench.undo();
        Check.due("tableOf after two", bench.tableOf(2), 10);
        bench.setTable(2, 40);
        bench.undo();
        Check.due("tableOf after another action and undo", bench.tableOf(2), 10);
        bench.undo();
        Check.due("tableOf at first", bench.tableOf(2), 61680);
    }

    private static void undoCounts() {
        for (int actions = 1; actions <= 4; actions++) {
            ZhegalkinBench bench = new ZhegalkinBench();
            for (int i = 0; i < actions; i++) {
                bench.fix(i, i, true);
            }
            for (int left = actions - 1; left >= 0; left--) {
                Check.due("undo after " + actions, bench.undo(), left);
            }
        }
    }

    private static void undoRefused() {
        Check.dueState("undo of a new bench", new ZhegalkinBench()::undo);
        ZhegalkinBench bench = new ZhegalkinBench();
        bench.setTable(3, 3);
        bench.undo();
        Check.dueState("undo when all are undone", bench::undo);
        Check.dueState("undo once more", bench::undo);
        Check.due("tableOf", bench.tableOf(3), 65280);
        Check.due("recordedStates", bench.recordedStates(), 0);
        ZhegalkinBench other = new ZhegalkinBench();
        other.takeSnapshot();
        Check.dueState("undo after a snapshot alone", other::undo);
    }

    private static void undoIsNoAction() {
        ZhegalkinBench bench = new ZhegalkinBench();
        bench.setTable(0, 1);
        bench.setTable(0, 2);
        bench.undo();
        Check.due("recordedStates", bench.recordedStates(), 1);
        bench.undo();
        Check.due("tableOf", bench.tableOf(0), 43690);
    }

    // ---- promises 12 and 13

    private static void snapshotReplaces() {
        ZhegalkinBench bench = new ZhegalkinBench();
        bench.setTable(0, 1);
        bench.takeSnapshot();
        bench.setTable(0, 2);
        bench.setTable(5, 3);
        bench.takeSnapshot();
        bench.setTable(0, 4);
        bench.restoreSnapshot();
        Check.due("tableOf(0)", bench.tableOf(0), 2);
        Check.due("tableOf(5)", bench.tableOf(5), 3);
    }

    private static void noProducts() {
        ZhegalkinBench bench = new ZhegalkinBench();
        for (int function = 0; function < 6; function++) {
            bench.setTable(function, 0);
        }
        Check.due("takeSnapshot", bench.takeSnapshot(), 0);
        bench.setTable(5, 65535);
        Check.due("takeSnapshot with 1", bench.takeSnapshot(), 1);
        Check.due("takeSnapshot of a new bench", new ZhegalkinBench().takeSnapshot(), 5);
    }

    private static void mostProducts() {
        ZhegalkinBench bench = new ZhegalkinBench();
        for (int function = 0; function < 6; function++) {
            // 1 at the point 0 alone is the sum of all 16 products.
            bench.setTable(function, 1);
        }
        Check.due("takeSnapshot", bench.takeSnapshot(), 96);
    }

    private static void sameProducts() {
        ZhegalkinBench bench = new ZhegalkinBench();
        for (int function = 0; function < 6; function++) {
            bench.setTable(function, 43690);
        }
        Check.due("takeSnapshot", bench.takeSnapshot(), 6);
    }

    private static void snapshotIsKept() {
        ZhegalkinBench bench = new ZhegalkinBench();
        bench.setTable(1, 11);
        bench.takeSnapshot();
        for (int i = 0; i < 3; i++) {
            bench.setTable(1, 50 + i);
            bench.restoreSnapshot();
            Check.due("tableOf", bench.tableOf(1), 11);
        }
        bench.restoreSnapshot();
        Check.due("tableOf after two in a row", bench.tableOf(1), 11);
    }

    private static void restoreIsAnAction() {
        ZhegalkinBench bench = new ZhegalkinBench();
        bench.takeSnapshot();
        bench.setTable(1, 11);
        bench.restoreSnapshot();
        Check.due("recordedStates", bench.recordedStates(), 2);
        Check.due("undo", bench.undo(), 1);
        Check.due("tableOf", bench.tableOf(1), 11);
        for (int i = 0; i < 9; i++) {
            bench.restoreSnapshot();
        }
        Check.due("recordedStates at most", bench.recordedStates(), 4);
    }

    private static void productsAfterwards() {
        ZhegalkinBench bench = new ZhegalkinBench();
        bench.takeSnapshot();
        bench.setTable(4, 1);
        Check.due("restoreSnapshot", bench.restoreSnapshot(), 5);
        bench.setTable(4, 1);
        bench.takeSnapshot();
        bench.setTable(4, 0);
        bench.setTable(0, 0);
        Check.due("restoreSnapshot to more", bench.restoreSnapshot(), 21);
    }

    private static void restoreRefused() {
        Check.dueState("restoreSnapshot of a new bench", new ZhegalkinBench()::restoreSnapshot);
        ZhegalkinBench bench = new ZhegalkinBench();
        bench.setTable(0, 1);
        Check.dueState("restoreSnapshot after an action", bench::restoreSnapshot);
        bench.undo();
        Check.dueState("restoreSnapshot after undo", bench::restoreSnapshot);
        bench.takeSnapshot();
        Check.dueNoThrow("restoreSnapshot after takeSnapshot", bench::restoreSnapshot);
    }

    // ---- promise 29

    private static void recordedUpToFour() {
        ZhegalkinBench bench = new ZhegalkinBench();
        for (int i = 1; i <= 40; i++) {
            bench.join(4, 4, 0, ZhegalkinBench.PLUS);
            Check.due("recordedStates after " + i, bench.recordedStates(), Math.min(i, 4));
        }
    }
}
