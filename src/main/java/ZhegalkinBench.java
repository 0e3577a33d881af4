/**
 * A bench of six truth functions of the variables a, b, c and d, and of their polynomials: sums of
 * products without repeats.
 *
 * <p>A function is held as its table: bit p is its value at the point p. A set of products is held
 * likewise: bit q says whether the product q is in it.
 */
public final class ZhegalkinBench {
    /** There is no such result. */
    public static final int NONE = -1;
    /** A way to join two functions. */
    public static final int PLUS = 0;
    /** A way to join two functions. */
    public static final int AND = 1;
    /** A way to join two functions. */
    public static final int OR = 2;
    /** A way to join two functions: 0 only where the first one is 1 and the second one is 0. */
    public static final int IMPLIES = 3;

    private static final int FUNCTIONS = 6;
    private static final int VARIABLES = 4;
    /** The number of points, and of products too. */
    private static final int POINTS = 16;
    /** The table that is 1 at all points, and the set of all products. */
    private static final int ALL = 65535;
    private static final int LINEAR_FUNCTIONS = 32;
    private static final int TEXT_LIMIT = 80;
    private static final int RECORDED_LIMIT = 4;
    /** All 16 products have 33 characters, with 15 times "+" between them. */
    private static final int PRINTED_LIMIT = 48;

    private static final int KEEPS_0 = 1;
    private static final int KEEPS_1 = 2;
    private static final int SELF_DUAL = 4;
    private static final int MONOTONE = 8;
    private static final int LINEAR = 16;
    private static final int ALL_CLASSES = 31;

    /** The tables of a, b, c and d. */
    private static final int[] VARIABLE_TABLES = {0xAAAA, 0xCCCC, 0xF0F0, 0xFF00};

    private final int[] tables = new int[FUNCTIONS];

    /** The recorded states one behind the other, the oldest one first. */
    private final int[] recorded = new int[RECORDED_LIMIT * FUNCTIONS];
    private int recordedCount = 0;

    private final int[] snapshot = new int[FUNCTIONS];
    private boolean hasSnapshot = false;

    private final char[] text = new char[TEXT_LIMIT];
    private int textLength = 0;
    private final TextReader reader = new TextReader();

    /** Working rows, made once so that no call makes an object. */
    private final int[] sums = new int[POINTS];
    private final char[] printed = new char[PRINTED_LIMIT];
    private int printedCount = 0;

    /** Creates a bench. */
    public ZhegalkinBench() {
        for (int variable = 0; variable < VARIABLES; variable++) {
            tables[variable] = VARIABLE_TABLES[variable];
        }
        tables[4] = 0;
        tables[5] = ALL;
    }

    // ---- actions

    /** Defines a function by the text; returns the number of its products. */
    public int define(int function) throws IndexOutOfBoundsException, IllegalStateException {
        checkFunction(function);
        int products = validTextProducts();
        recordState();
        // The sums that lead from a table to its products lead back as well.
        tables[function] = addHalves(products);
        return Integer.bitCount(products);
    }

    /** Defines a function by its table; returns the previous table. */
    public int setTable(int function, int table)
            throws IndexOutOfBoundsException, IllegalArgumentException {
        checkFunction(function);
        if (table < 0 || table > ALL) {
            throw new IllegalArgumentException("table is out of range");
        }
        int previous = tables[function];
        recordState();
        tables[function] = table;
        return previous;
    }

    /** Joins two functions into a function, point by point; returns the table of the result. */
    public int join(int function, int one, int other, int way)
            throws IndexOutOfBoundsException, IllegalArgumentException {
        checkFunction(function);
        checkFunction(one);
        checkFunction(other);
        if (way < PLUS || way > IMPLIES) {
            throw new IllegalArgumentException("there is no such way");
        }
        int result = joinTables(tables[one], tables[other], way);
        recordState();
        tables[function] = result;
        return result;
    }

    /** Gives a variable of a function a value; returns the table of the function afterwards. */
    public int fix(int function, int variable, boolean isOne) throws IndexOutOfBoundsException {
        checkFunction(function);
        checkVariable(variable);
        recordState();
        tables[function] = half(tables[function], variable, isOne);
        return tables[function];
    }

    /** Puts a function in for a variable of a function; returns its table afterwards. */
    public int substitute(int function, int variable, int other) throws IndexOutOfBoundsException {
        checkFunction(function);
        checkVariable(variable);
        checkFunction(other);
        int whereOne = half(tables[function], variable, true);
        int whereZero = half(tables[function], variable, false);
        int chooser = tables[other];
        recordState();
        tables[function] = (chooser & whereOne) | (~chooser & whereZero);
        return tables[function];
    }

    // ---- text

    /** Appends a character to the text; returns the length of the text afterwards. */
    public int type(char character) throws IllegalStateException {
        if (textLength >= TEXT_LIMIT) {
            throw new IllegalStateException("the text is full");
        }
        text[textLength] = character;
        textLength++;
        return textLength;
    }

    /** Empties the text; returns the length that it had. */
    public int clearText() {
        int length = textLength;
        textLength = 0;
        return length;
    }

    /** Finds the first error of the text; returns its index, or NONE. */
    public int textError() {
        return reader.firstError(text, textLength);
    }

    /** Returns the products that the text tells. */
    public int textProducts() throws IllegalStateException {
        return validTextProducts();
    }

    // ---- undo, snapshot

    /** Returns to the state that was recorded last; returns the number of those that are left. */
    public int undo() throws IllegalStateException {
        if (recordedCount <= 0) {
            throw new IllegalStateException("no state is recorded");
        }
        recordedCount--;
        System.arraycopy(recorded, recordedCount * FUNCTIONS, tables, 0, FUNCTIONS);
        return recordedCount;
    }

    /** Takes a snapshot of the state; returns the number of products of all functions. */
    public int takeSnapshot() {
        System.arraycopy(tables, 0, snapshot, 0, FUNCTIONS);
        hasSnapshot = true;
        return countAllProducts();
    }

    /** Returns to the state of the snapshot; returns the number of products of all functions. */
    public int restoreSnapshot() throws IllegalStateException {
        if (!hasSnapshot) {
            throw new IllegalStateException("there is no snapshot");
        }
        recordState();
        System.arraycopy(snapshot, 0, tables, 0, FUNCTIONS);
        return countAllProducts();
    }

    // ---- functions

    /** Returns the table of a function. */
    public int tableOf(int function) throws IndexOutOfBoundsException {
        checkFunction(function);
        return tables[function];
    }

    /** Returns the value of a function at a point. */
    public int valueAt(int function, int point) throws IndexOutOfBoundsException {
        checkFunction(function);
        if (point < 0 || point >= POINTS) {
            throw new IndexOutOfBoundsException("there is no such point");
        }
        return bit(tables[function], point);
    }

    /** Returns the number of points at which a function is 1. */
    public int weightOf(int function) throws IndexOutOfBoundsException {
        checkFunction(function);
        return Integer.bitCount(tables[function]);
    }

    /** Tells whether a function depends on a variable. */
    public boolean dependsOn(int function, int variable) throws IndexOutOfBoundsException {
        checkFunction(function);
        checkVariable(variable);
        return half(tables[function], variable, true) != half(tables[function], variable, false);
    }

    // ---- polynomials

    /** Returns the products of a function, told by halves. */
    public int productsByHalves(int function) throws IndexOutOfBoundsException {
        checkFunction(function);
        return addHalves(tables[function]);
    }

    /** Returns the products of a function, told by sums. */
    public int productsBySums(int function) throws IndexOutOfBoundsException {
        checkFunction(function);
        int products = 0;
        for (int product = 0; product < POINTS; product++) {
            products |= sumBelow(tables[function], product) << product;
        }
        return products;
    }

    /** Returns the degree of a function. */
    public int degreeOf(int function) throws IndexOutOfBoundsException {
        checkFunction(function);
        return degree(tables[function]);
    }

    /** Returns the length of the printed text of a function. */
    public int printedLength(int function) throws IndexOutOfBoundsException {
        checkFunction(function);
        print(addHalves(tables[function]));
        return printedCount;
    }

    /** Returns a character of the printed text of a function. */
    public char printedLetter(int function, int place) throws IndexOutOfBoundsException {
        checkFunction(function);
        print(addHalves(tables[function]));
        if (place < 0 || place >= printedCount) {
            throw new IndexOutOfBoundsException("there is no such letter");
        }
        return printed[place];
    }

    // ---- distances, classes

    /** Returns the distance of a function to the linear ones, told by trying all of these. */
    public int distanceByTrying(int function) throws IndexOutOfBoundsException {
        checkFunction(function);
        int least = POINTS;
        for (int number = 0; number < LINEAR_FUNCTIONS; number++) {
            int differing = tables[function] ^ linearTable(number);
            least = Math.min(least, Integer.bitCount(differing));
        }
        return least;
    }

    /** Returns the distance of a function to the linear ones, told by sums. */
    public int distanceBySums(int function) throws IndexOutOfBoundsException {
        checkFunction(function);
        for (int point = 0; point < POINTS; point++) {
            sums[point] = 1 - 2 * bit(tables[function], point);
        }
        for (int variable = 0; variable < VARIABLES; variable++) {
            sumPairs(variable);
        }
        int greatest = 0;
        for (int place = 0; place < POINTS; place++) {
            greatest = Math.max(greatest, Math.abs(sums[place]));
        }
        return (POINTS - greatest) / 2;
    }

    /** Tells whether a function is self-dual. */
    public boolean isSelfDual(int function) throws IndexOutOfBoundsException {
        checkFunction(function);
        return hasOppositeEnds(tables[function]);
    }

    /** Tells whether a function is monotone. */
    public boolean isMonotone(int function) throws IndexOutOfBoundsException {
        checkFunction(function);
        return neverFalls(tables[function]);
    }

    /** Tells whether some functions, given as a set of bits, are enough. */
    public boolean areEnough(int functions) throws IllegalArgumentException {
        if (functions < 1 || functions >= 1 << FUNCTIONS) {
            throw new IllegalArgumentException("functions is out of range");
        }
        return sharedClasses(functions) == 0;
    }

    /** Returns the least number of functions that are enough together, or NONE. */
    public int fewestEnough() {
        int fewest = NONE;
        for (int functions = 1; functions < 1 << FUNCTIONS; functions++) {
            int count = Integer.bitCount(functions);
            boolean isFewer = fewest == NONE || count < fewest;
            if (isFewer && sharedClasses(functions) == 0) {
                fewest = count;
            }
        }
        return fewest;
    }

    /** Returns the number of recorded states. */
    public int recordedStates() {
        return recordedCount;
    }

    // ---- checks

    private static void checkFunction(int function) {
        if (function < 0 || function >= FUNCTIONS) {
            throw new IndexOutOfBoundsException("there is no such function");
        }
    }

    private static void checkVariable(int variable) {
        if (variable < 0 || variable >= VARIABLES) {
            throw new IndexOutOfBoundsException("there is no such variable");
        }
    }

    private int validTextProducts() {
        if (reader.firstError(text, textLength) != NONE) {
            throw new IllegalStateException("the text is not valid");
        }
        return reader.productsRead();
    }

    // ---- state

    private void recordState() {
        if (recordedCount >= RECORDED_LIMIT) {
            recordedCount = RECORDED_LIMIT - 1;
            System.arraycopy(recorded, FUNCTIONS, recorded, 0, recordedCount * FUNCTIONS);
        }
        System.arraycopy(tables, 0, recorded, recordedCount * FUNCTIONS, FUNCTIONS);
        recordedCount++;
    }

    private int countAllProducts() {
        int count = 0;
        for (int function = 0; function < FUNCTIONS; function++) {
            count += Integer.bitCount(addHalves(tables[function]));
        }
        return count;
    }

    // ---- tables

    private static int bit(int table, int point) {
        return (table >> point) & 1;
    }

    private static int joinTables(int one, int other, int way) {
        switch (way) {
            case PLUS:
                return one ^ other;
            case AND:
                return one & other;
            case OR:
                return one | other;
            default:
                return (~one & ALL) | other;
        }
    }

    /** The table that has, at each point, the value where the variable has the given value. */
    private static int half(int table, int variable, boolean isOne) {
        int step = 1 << variable;
        if (isOne) {
            int upper = table & VARIABLE_TABLES[variable];
            return upper | (upper >> step);
        }
        int lower = table & ~VARIABLE_TABLES[variable];
        return lower | (lower << step);
    }

    /** From a table to its products, and from products to their table. */
    private static int addHalves(int table) {
        int result = table;
        for (int variable = 0; variable < VARIABLES; variable++) {
            int lower = result & ~VARIABLE_TABLES[variable];
            result ^= lower << (1 << variable);
        }
        return result;
    }

    /** The sum of the values at the points all of whose 1s are in the product. */
    private static int sumBelow(int table, int product) {
        int sum = 0;
        for (int point = 0; point <= product; point++) {
            if ((point & ~product) == 0) {
                sum ^= bit(table, point);
            }
        }
        return sum;
    }

    private static int degree(int table) {
        int products = addHalves(table);
        int greatest = 0;
        for (int product = 0; product < POINTS; product++) {
            if (bit(products, product) == 1) {
                greatest = Math.max(greatest, Integer.bitCount(product));
            }
        }
        return greatest;
    }

    /** The bits 0 to 3 of the number choose the variables that are added up, bit 4 adds 1. */
    private static int linearTable(int number) {
        int table = bit(number, VARIABLES) == 1 ? ALL : 0;
        for (int variable = 0; variable < VARIABLES; variable++) {
            if (bit(number, variable) == 1) {
                table ^= VARIABLE_TABLES[variable];
            }
        }
        return table;
    }

    private void sumPairs(int variable) {
        int step = 1 << variable;
        for (int place = 0; place + step < POINTS; place++) {
            if ((place & step) == 0) {
                int lower = sums[place];
                int upper = sums[place + step];
                sums[place] = lower + upper;
                sums[place + step] = lower - upper;
            }
        }
    }

    // ---- classes

    private static boolean hasOppositeEnds(int table) {
        for (int point = 0; point < POINTS; point++) {
            if (bit(table, point) == bit(table, POINTS - 1 - point)) {
                return false;
            }
        }
        return true;
    }

    /** Steps of one variable are enough to look at: any rise of a point is a row of them. */
    private static boolean neverFalls(int table) {
        for (int variable = 0; variable < VARIABLES; variable++) {
            if ((half(table, variable, false) & ~half(table, variable, true)) != 0) {
                return false;
            }
        }
        return true;
    }

    private static int classesOf(int table) {
        int classes = 0;
        if (bit(table, 0) == 0) {
            classes |= KEEPS_0;
        }
        if (bit(table, POINTS - 1) == 1) {
            classes |= KEEPS_1;
        }
        if (hasOppositeEnds(table)) {
            classes |= SELF_DUAL;
        }
        if (neverFalls(table)) {
            classes |= MONOTONE;
        }
        if (degree(table) <= 1) {
            classes |= LINEAR;
        }
        return classes;
    }

    /** The classes in which all of these functions are; functions that share none are enough. */
    private int sharedClasses(int functions) {
        int shared = ALL_CLASSES;
        for (int function = 0; function < FUNCTIONS; function++) {
            if (bit(functions, function) == 1) {
                shared &= classesOf(tables[function]);
            }
        }
        return shared;
    }

    // ---- printing

    private void print(int products) {
        printedCount = 0;
        if (products == 0) {
            put('0');
        }
        for (int product = 0; product < POINTS; product++) {
            if (bit(products, product) == 1) {
                if (printedCount > 0) {
                    put('+');
                }
                printProduct(product);
            }
        }
    }

    private void printProduct(int product) {
        if (product == 0) {
            put('1');
        }
        for (int variable = 0; variable < VARIABLES; variable++) {
            if (bit(product, variable) == 1) {
                put((char) ('a' + variable));
            }
        }
    }

    private void put(char character) {
        if (printedCount < PRINTED_LIMIT) {
            printed[printedCount] = character;
            printedCount++;
        }
    }

    /**
     * Reads a text from its start, a character at a time, and refuses the first character behind
     * which no valid text can follow.
     */
    private static final class TextReader {
        private static final int AT_START = 0;
        private static final int AFTER_ZERO = 1;
        private static final int AFTER_PLUS = 2;
        private static final int IN_PRODUCT = 3;

        private int where = AT_START;
        /** The products that stand before the last "+". */
        private int finished = 0;
        /** The product that is being read. */
        private int product = 0;
        /** The first variable that may still come in this product. */
        private int nextVariable = 0;

        /** The index of the first error of a text, or NONE. */
        private int firstError(char[] text, int length) {
            where = AT_START;
            finished = 0;
            startProduct();
            for (int place = 0; place < length && place < text.length; place++) {
                if (!takes(text[place])) {
                    return place;
                }
            }
            return canEnd() ? NONE : length;
        }

        /** The products of the text that was read, if it was valid. */
        private int productsRead() {
            return where == AFTER_ZERO ? 0 : finished | (1 << product);
        }

        private void startProduct() {
            product = 0;
            nextVariable = 0;
        }

        private boolean canEnd() {
            return where == AFTER_ZERO || (where == IN_PRODUCT && isNew(product));
        }

        private boolean isNew(int candidate) {
            return (finished & (1 << candidate)) == 0;
        }

        private boolean takes(char character) {
            if (character == '0') {
                return takesZero();
            }
            if (character == '1') {
                return takesOne();
            }
            if (character == '+') {
                return takesPlus();
            }
            return takesVariable(character - 'a');
        }

        private boolean takesZero() {
            if (where != AT_START) {
                return false;
            }
            where = AFTER_ZERO;
            nextVariable = VARIABLES;
            return true;
        }

        private boolean takesOne() {
            boolean isAtProduct = where == AT_START || where == AFTER_PLUS;
            if (!isAtProduct || !isNew(0)) {
                return false;
            }
            where = IN_PRODUCT;
            nextVariable = VARIABLES;
            return true;
        }

        private boolean takesPlus() {
            if (where != IN_PRODUCT || !isNew(product)) {
                return false;
            }
            int withThis = finished | (1 << product);
            // Behind the last of all products no other one could follow the "+".
            if (withThis == ALL) {
                return false;
            }
            where = AFTER_PLUS;
            finished = withThis;
            startProduct();
            return true;
        }

        private boolean takesVariable(int variable) {
            if (variable < nextVariable || variable >= VARIABLES) {
                return false;
            }
            int longer = product | (1 << variable);
            if (!canBecomeNew(longer, variable + 1)) {
                return false;
            }
            where = IN_PRODUCT;
            product = longer;
            nextVariable = variable + 1;
            return true;
        }

        /** Whether a product, with or without variables from the given one on, is a new one. */
        private boolean canBecomeNew(int start, int fromVariable) {
            int settled = (1 << fromVariable) - 1;
            for (int candidate = 0; candidate < POINTS; candidate++) {
                if ((candidate & settled) == start && isNew(candidate)) {
                    return true;
                }
            }
            return false;
        }
    }
}
