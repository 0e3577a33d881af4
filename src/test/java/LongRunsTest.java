/**
 * Runs of mixed calls, right and wrong ones, each answer compared with the model's. A step makes at
 * most 3 calls, so a run stays below the 512 calls that the document speaks of.
 */
public final class LongRunsTest {
    private static final int ROUNDS = 1200;
    private static final int STEPS = 170;

    private final Steps steps;
    private final ZhegalkinBench bench = new ZhegalkinBench();
    private final Model model = new Model();
    private String where = "";

    private LongRunsTest(int seed) {
        steps = new Steps(seed);
    }

    public static void main(String[] args) {
        for (int round = 0; round < ROUNDS; round++) {
            LongRunsTest run = new LongRunsTest(round);
            for (int call = 0; call < STEPS; call++) {
                run.where = "run " + round + " call " + call + " ";
                run.oneCall();
            }
        }
        Check.end();
    }

    private void oneCall() {
        switch (steps.below(16)) {
            case 0: define(); break;
            case 1: setTable(); break;
            case 2: join(); break;
            case 3: fix(); break;
            case 4: substitute(); break;
            case 5: case 6: case 7: case 8: type(); break;
            case 9: textCalls(); break;
            case 10: case 11: undo(); break;
            case 12: snapshots(); break;
            default: questions(); break;
        }
    }

    private int function() {
        return steps.below(20) == 0 ? steps.below(2) * 7 - 1 : steps.below(6);
    }

    private int variable() {
        return steps.below(20) == 0 ? steps.below(2) * 5 - 1 : steps.below(4);
    }

    private static boolean none(int function) {
        return function < 0 || function > 5;
    }

    private void define() {
        int f = function();
        if (none(f)) {
            Check.dueIndex(where + "define", () -> bench.define(f));
        } else if (Model.firstError(model.text()) != -1) {
            Check.dueState(where + "define", () -> bench.define(f));
        } else {
            boolean[] products = Model.productsOfText(model.text());
            Check.due(where + "define", bench.define(f), Model.count(products));
            model.put(f, Model.sumOf(products));
        }
    }

    private void setTable() {
        int f = function();
        int table = steps.below(66000) - 200;
        if (none(f)) {
            Check.dueIndex(where + "setTable", () -> bench.setTable(f, table));
        } else if (table < 0 || table > 65535) {
            Check.dueArgument(where + "setTable", () -> bench.setTable(f, table));
        } else {
            Check.due(where + "setTable", bench.setTable(f, table),
                Model.numberOf(model.function(f)));
            model.put(f, Model.valuesOf(table));
        }
    }

    private void join() {
        int f = function();
        int one = function();
        int other = function();
        int way = steps.below(6) - 1;
        if (none(f) || none(one) || none(other)) {
            Check.dueIndex(where + "join", () -> bench.join(f, one, other, way));
        } else if (way < 0 || way > 3) {
            Check.dueArgument(where + "join", () -> bench.join(f, one, other, way));
        } else {
            model.put(f, model.joined(one, other, way));
            Check.due(where + "join", bench.join(f, one, other, way),
                Model.numberOf(model.function(f)));
        }
    }

    private void fix() {
        int f = function();
        int v = variable();
        boolean isOne = steps.below(2) == 1;
        if (none(f) || v < 0 || v > 3) {
            Check.dueIndex(where + "fix", () -> bench.fix(f, v, isOne));
        } else {
            model.put(f, model.fixed(f, v, isOne));
            Check.due(where + "fix", bench.fix(f, v, isOne), Model.numberOf(model.function(f)));
        }
    }

    private void substitute() {
        int f = function();
        int v = variable();
        int other = function();
        if (none(f) || none(other) || v < 0 || v > 3) {
            Check.dueIndex(where + "substitute", () -> bench.substitute(f, v, other));
        } else {
            model.put(f, model.substituted(f, v, other));
            Check.due(where + "substitute", bench.substitute(f, v, other),
                Model.numberOf(model.function(f)));
        }
    }

    private void type() {
        char character = "abcd+1abcd+0".charAt(steps.below(12));
        // Mostly a character that can come here, so that longer valid texts arise.
        if (steps.below(8) != 0 && !Model.canGoOn(model.text() + character)) {
            return;
        }
        if (model.text().length() == 80) {
            Check.dueState(where + "type", () -> bench.type(character));
        } else {
            model.type(character);
            Check.due(where + "type", bench.type(character), model.text().length());
        }
    }

    private void textCalls() {
        int error = Model.firstError(model.text());
        Check.due(where + "textError", bench.textError(), error);
        if (error != -1) {
            Check.dueState(where + "textProducts", bench::textProducts);
        } else {
            Check.due(where + "textProducts", bench.textProducts(),
                Model.numberOf(Model.productsOfText(model.text())));
        }
        if (error >= 0 && error < model.text().length() || steps.below(6) == 0) {
            Check.due(where + "clearText", bench.clearText(), model.text().length());
            model.clearText();
        }
    }

    private void undo() {
        if (model.recordedStates() == 0) {
            Check.dueState(where + "undo", bench::undo);
        } else {
            model.undo();
            Check.due(where + "undo", bench.undo(), model.recordedStates());
        }
        Check.due(where + "recordedStates", bench.recordedStates(), model.recordedStates());
    }

    private void snapshots() {
        if (steps.below(3) == 0) {
            model.takeSnapshot();
            Check.due(where + "takeSnapshot", bench.takeSnapshot(), model.productsInAll());
        } else if (!model.hasSnapshot()) {
            Check.dueState(where + "restoreSnapshot", bench::restoreSnapshot);
        } else {
            model.restoreSnapshot();
            Check.due(where + "restoreSnapshot", bench.restoreSnapshot(), model.productsInAll());
        }
    }

    private void questions() {
        int f = steps.below(6);
        boolean[] row = model.function(f);
        switch (steps.below(6)) {
            case 0:
                Check.due(where + "tableOf", bench.tableOf(f), Model.numberOf(row));
                break;
            case 1:
                Check.due(where + "productsByHalves", bench.productsByHalves(f),
                    Model.numberOf(Model.productsOf(row)));
                break;
            case 2:
                Check.due(where + "distanceBySums", bench.distanceBySums(f), Model.distance(row));
                break;
            case 3:
                int functions = 1 + steps.below(63);
                Check.due(where + "areEnough", bench.areEnough(functions), model.enough(functions));
                break;
            case 4:
                String printed = Model.printed(row);
                int place = steps.below(printed.length());
                Check.due(where + "printedLetter", bench.printedLetter(f, place),
                    printed.charAt(place));
                break;
            default:
                Check.due(where + "fewestEnough", bench.fewestEnough(), model.fewestEnough());
                break;
        }
    }
}
