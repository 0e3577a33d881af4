/** Promises 11, 12, 13 and 29: undo, the snapshot and the recorded states. */
public final class UndoTest {
    public static void main(String[] args) {
        undoFour();
        undoGivesAll();
        snapshot();
        restoreIsAnAction();
        snapshotCopies();
        whatRecordsNothing();
        Check.end();
    }

    private static void undoFour() {
        ZhegalkinBench bench = new ZhegalkinBench();
        for (int i = 1; i <= 7; i++) {
            bench.setTable(4, i);
            Check.due("recordedStates after " + i, bench.recordedStates(), Math.min(i, 4));
        }
        for (int left = 3; left >= 0; left--) {
            Check.due("undo to " + left, bench.undo(), left);
            Check.due("recordedStates", bench.recordedStates(), left);
            Check.due("tableOf(4)", bench.tableOf(4), left + 3);
        }
        Check.dueState("undo of none", bench::undo);
        Check.due("tableOf(4) stays", bench.tableOf(4), 3);
        bench.setTable(4, 99);
        Check.due("recordedStates goes on", bench.recordedStates(), 1);
        bench.undo();
        Check.due("tableOf(4) again", bench.tableOf(4), 3);
    }

    private static void undoGivesAll() {
        ZhegalkinBench bench = new ZhegalkinBench();
        String before = Bench.state(bench);
        bench.setTable(0, 1);
        bench.setTable(5, 2);
        bench.join(2, 0, 5, 0);
        bench.fix(3, 3, true);
        for (int i = 0; i < 4; i++) {
            bench.undo();
        }
        Check.due("the state", Bench.state(bench), before);
    }

    private static void snapshot() {
        ZhegalkinBench bench = new ZhegalkinBench();
        Check.dueState("restoreSnapshot of none", bench::restoreSnapshot);
        Check.due("takeSnapshot", bench.takeSnapshot(), 5);
        Check.due("takeSnapshot records nothing", bench.recordedStates(), 0);
        // 1 at the point 0 alone: the sum of all 16 products.
        bench.setTable(4, 1);
        Check.due("takeSnapshot again", bench.takeSnapshot(), 21);
        bench.setTable(4, 0);
        Check.due("restoreSnapshot", bench.restoreSnapshot(), 21);
        Check.due("tableOf(4)", bench.tableOf(4), 1);
        bench.setTable(0, 0);
        Check.due("restoreSnapshot, which was kept", bench.restoreSnapshot(), 21);
        Check.due("tableOf(0)", bench.tableOf(0), 43690);
    }

    private static void restoreIsAnAction() {
        ZhegalkinBench bench = new ZhegalkinBench();
        bench.takeSnapshot();
        bench.setTable(1, 77);
        bench.restoreSnapshot();
        Check.due("recordedStates", bench.recordedStates(), 2);
        Check.due("tableOf(1) restored", bench.tableOf(1), 52428);
        Check.due("undo", bench.undo(), 1);
        Check.due("tableOf(1) undone", bench.tableOf(1), 77);
        bench.undo();
        Check.due("tableOf(1) at first", bench.tableOf(1), 52428);
        Check.due("undo leaves the snapshot", bench.restoreSnapshot(), 5);
        for (int i = 0; i < 5; i++) {
            bench.restoreSnapshot();
        }
        Check.due("four at most", bench.recordedStates(), 4);
    }

    private static void snapshotCopies() {
        ZhegalkinBench bench = Bench.withText("ab");
        bench.takeSnapshot();
        bench.setTable(4, 5);
        bench.clearText();
        bench.type('x');
        bench.restoreSnapshot();
        Check.due("the text is not in the snapshot", bench.clearText(), 1);
        bench.setTable(4, 6);
        bench.restoreSnapshot();
        Check.due("later tables are not in it", bench.tableOf(4), 0);
        Check.due("nor are recorded states", bench.recordedStates(), 4);
        bench.setTable(4, 8);
        bench.takeSnapshot();
        bench.undo();
        bench.restoreSnapshot();
        Check.due("the newer snapshot is", bench.tableOf(4), 8);
    }

    private static void whatRecordsNothing() {
        ZhegalkinBench bench = new ZhegalkinBench();
        bench.type('a');
        bench.textError();
        bench.textProducts();
        bench.clearText();
        bench.takeSnapshot();
        bench.tableOf(0);
        bench.valueAt(0, 0);
        bench.weightOf(0);
        bench.dependsOn(0, 0);
        bench.productsByHalves(0);
        bench.productsBySums(0);
        bench.degreeOf(0);
        bench.printedLength(0);
        bench.printedLetter(0, 0);
        bench.distanceByTrying(0);
        bench.distanceBySums(0);
        bench.isSelfDual(0);
        bench.isMonotone(0);
        bench.areEnough(1);
        bench.fewestEnough();
        Check.due("recordedStates", bench.recordedStates(), 0);
    }
}
