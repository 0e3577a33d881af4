import java.util.ArrayDeque;
import java.util.ArrayList;
import java.util.Arrays;
import java.util.Deque;
import java.util.List;

/**
 * The document said once more, as near to its words as can be and in other ways than the class:
 * values in rows of booleans, products and texts as strings, monotone by all pairs of points.
 */
final class Model {
    static final String[] PRODUCTS = {
        "1", "a", "b", "ab", "c", "ac", "bc", "abc",
        "d", "ad", "bd", "abd", "cd", "acd", "bcd", "abcd"
    };

    private boolean[][] values = new boolean[6][16];
    private final Deque<boolean[][]> recorded = new ArrayDeque<>();
    private boolean[][] snapshot = null;
    private String text = "";

    Model() {
        for (int p = 0; p < 16; p++) {
            for (int v = 0; v < 4; v++) {
                values[v][p] = has(p, v);
            }
            values[5][p] = true;
        }
    }

    // ---- of one function, told by its table

    static boolean has(int point, int variable) {
        return point / (1 << variable) % 2 == 1;
    }

    static boolean within(int product, int point) {
        for (int v = 0; v < 4; v++) {
            if (has(product, v) && !has(point, v)) {
                return false;
            }
        }
        return true;
    }

    static boolean[] valuesOf(int table) {
        boolean[] row = new boolean[16];
        for (int p = 0; p < 16; p++) {
            row[p] = table / (1 << p) % 2 == 1;
        }
        return row;
    }

    static int numberOf(boolean[] row) {
        int number = 0;
        for (int p = 15; p >= 0; p--) {
            number = number * 2 + (row[p] ? 1 : 0);
        }
        return number;
    }

    /** Solved from the smallest product on: the value at q is the sum of the products within q. */
    static boolean[] productsOf(boolean[] row) {
        boolean[] products = new boolean[16];
        for (int q = 0; q < 16; q++) {
            boolean rest = row[q];
            for (int r = 0; r < q; r++) {
                if (products[r] && within(r, q)) {
                    rest = !rest;
                }
            }
            products[q] = rest;
        }
        return products;
    }

    static boolean[] sumOf(boolean[] products) {
        boolean[] row = new boolean[16];
        for (int p = 0; p < 16; p++) {
            for (int q = 0; q < 16; q++) {
                if (products[q] && within(q, p)) {
                    row[p] = !row[p];
                }
            }
        }
        return row;
    }

    static int count(boolean[] row) {
        int count = 0;
        for (boolean value : row) {
            count += value ? 1 : 0;
        }
        return count;
    }

    static int degree(boolean[] row) {
        boolean[] products = productsOf(row);
        int degree = 0;
        for (int q = 1; q < 16; q++) {
            if (products[q]) {
                degree = Math.max(degree, PRODUCTS[q].length());
            }
        }
        return degree;
    }

    static String printed(boolean[] row) {
        boolean[] products = productsOf(row);
        List<String> parts = new ArrayList<>();
        for (int q = 0; q < 16; q++) {
            if (products[q]) {
                parts.add(PRODUCTS[q]);
            }
        }
        return parts.isEmpty() ? "0" : String.join("+", parts);
    }

    static int distance(boolean[] row) {
        int least = 16;
        for (int chosen = 0; chosen < 32; chosen++) {
            int differing = 0;
            for (int p = 0; p < 16; p++) {
                boolean linear = chosen >= 16;
                for (int v = 0; v < 4; v++) {
                    linear ^= has(chosen, v) && has(p, v);
                }
                differing += linear != row[p] ? 1 : 0;
            }
            least = Math.min(least, differing);
        }
        return least;
    }

    static boolean selfDual(boolean[] row) {
        for (int p = 0; p < 16; p++) {
            if (row[p] == row[15 - p]) {
                return false;
            }
        }
        return true;
    }

    static boolean monotone(boolean[] row) {
        for (int p = 0; p < 16; p++) {
            for (int q = 0; q < 16; q++) {
                if (within(p, q) && row[p] && !row[q]) {
                    return false;
                }
            }
        }
        return true;
    }

    static boolean depends(boolean[] row, int variable) {
        for (int p = 0; p < 16; p++) {
            if (!has(p, variable) && row[p] != row[p + (1 << variable)]) {
                return true;
            }
        }
        return false;
    }

    // ---- of a text

    /** Whether some valid text begins so: what is behind the last "+" must begin a new product. */
    static boolean canGoOn(String start) {
        if (start.isEmpty() || start.equals("0")) {
            return true;
        }
        String[] parts = start.split("\\+", -1);
        List<String> left = new ArrayList<>(Arrays.asList(PRODUCTS));
        for (int i = 0; i + 1 < parts.length; i++) {
            if (!left.remove(parts[i])) {
                return false;
            }
        }
        for (String product : left) {
            if (product.startsWith(parts[parts.length - 1])) {
                return true;
            }
        }
        return false;
    }

    static boolean isValid(String text) {
        if (text.equals("0")) {
            return true;
        }
        List<String> left = new ArrayList<>(Arrays.asList(PRODUCTS));
        for (String part : text.split("\\+", -1)) {
            if (!left.remove(part)) {
                return false;
            }
        }
        return true;
    }

    static int firstError(String text) {
        for (int i = 0; i < text.length(); i++) {
            if (!canGoOn(text.substring(0, i + 1))) {
                return i;
            }
        }
        return isValid(text) ? -1 : text.length();
    }

    static boolean[] productsOfText(String text) {
        boolean[] products = new boolean[16];
        if (!text.equals("0")) {
            for (String part : text.split("\\+", -1)) {
                products[Arrays.asList(PRODUCTS).indexOf(part)] = true;
            }
        }
        return products;
    }

    // ---- of the bench

    boolean[] function(int function) {
        return values[function];
    }

    String text() {
        return text;
    }

    void type(char character) {
        text = text + character;
    }

    void clearText() {
        text = "";
    }

    int recordedStates() {
        return recorded.size();
    }

    boolean hasSnapshot() {
        return snapshot != null;
    }

    private boolean[][] copyOfState() {
        boolean[][] copy = new boolean[6][];
        for (int f = 0; f < 6; f++) {
            copy[f] = values[f].clone();
        }
        return copy;
    }

    private void record() {
        recorded.addLast(copyOfState());
        if (recorded.size() > 4) {
            recorded.removeFirst();
        }
    }

    void put(int function, boolean[] row) {
        record();
        values[function] = row.clone();
    }

    boolean[] joined(int one, int other, int way) {
        boolean[] row = new boolean[16];
        for (int p = 0; p < 16; p++) {
            boolean x = values[one][p];
            boolean y = values[other][p];
            row[p] = way == 0 ? x != y : way == 1 ? x && y : way == 2 ? x || y : !(x && !y);
        }
        return row;
    }

    boolean[] fixed(int function, int variable, boolean isOne) {
        boolean[] row = new boolean[16];
        for (int p = 0; p < 16; p++) {
            row[p] = values[function][moved(p, variable, isOne)];
        }
        return row;
    }

    boolean[] substituted(int function, int variable, int other) {
        boolean[] row = new boolean[16];
        for (int p = 0; p < 16; p++) {
            row[p] = values[function][moved(p, variable, values[other][p])];
        }
        return row;
    }

    private static int moved(int point, int variable, boolean isOne) {
        int without = has(point, variable) ? point - (1 << variable) : point;
        return isOne ? without + (1 << variable) : without;
    }

    void undo() {
        values = recorded.removeLast();
    }

    void takeSnapshot() {
        snapshot = copyOfState();
    }

    void restoreSnapshot() {
        record();
        boolean[][] now = values;
        values = snapshot;
        snapshot = copyOfState();
        if (now == values) {
            throw new IllegalStateException("the snapshot must be a copy");
        }
    }

    int productsInAll() {
        int sum = 0;
        for (boolean[] row : values) {
            sum += count(productsOf(row));
        }
        return sum;
    }

    boolean enough(int functions) {
        boolean keeps0 = true;
        boolean keeps1 = true;
        boolean dual = true;
        boolean monotone = true;
        boolean linear = true;
        for (int f = 0; f < 6; f++) {
            if (functions / (1 << f) % 2 == 1) {
                keeps0 &= !values[f][0];
                keeps1 &= values[f][15];
                dual &= selfDual(values[f]);
                monotone &= monotone(values[f]);
                linear &= degree(values[f]) <= 1;
            }
        }
        return !keeps0 && !keeps1 && !dual && !monotone && !linear;
    }

    int fewestEnough() {
        for (int size = 1; size <= 6; size++) {
            for (int functions = 1; functions < 64; functions++) {
                if (Integer.bitCount(functions) == size && enough(functions)) {
                    return size;
                }
            }
        }
        return -1;
    }
}
