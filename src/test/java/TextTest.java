/** Promises 7 to 10: the text, its first error and its products. */
public final class TextTest {
    public static void main(String[] args) {
        typeAndClear();
        fullText();
        namedErrors();
        lastProducts();
        products();
        allShortTexts();
        manyLongTexts();
        anyCharacter();
        Check.end();
    }

    private static void typeAndClear() {
        ZhegalkinBench bench = new ZhegalkinBench();
        Check.due("type a", bench.type('a'), 1);
        Check.due("type x", bench.type('x'), 2);
        Check.due("clearText", bench.clearText(), 2);
        Check.due("clearText of none", bench.clearText(), 0);
        Check.due("type 0", bench.type('0'), 1);
        Check.due("the old text is gone", bench.textError(), -1);
        bench.setTable(0, 1);
        bench.clearText();
        bench.undo();
        Check.due("undo leaves the text", bench.clearText(), 0);
        Check.due("no action in text calls", bench.recordedStates(), 0);
    }

    private static void fullText() {
        ZhegalkinBench bench = new ZhegalkinBench();
        for (int i = 1; i <= 80; i++) {
            Check.due("type number " + i, bench.type('a'), i);
        }
        Check.dueState("type number 81", () -> bench.type('a'));
        Check.due("the error of a full text", bench.textError(), 1);
        Check.due("clearText of a full text", bench.clearText(), 80);
        Check.due("type after that", bench.type('a'), 1);
    }

    private static void error(String text, int want) {
        Check.due("textError of '" + text + "'", Bench.withText(text).textError(), want);
    }

    private static void namedErrors() {
        error("", 0);
        error("a+a", 3);
        error("1+1", 2);
        error("d+d", 2);
        error("abcd+abcd", 8);
        error("0", -1);
        error("00", 1);
        error("0+a", 1);
        error("01", 1);
        error("0a", 1);
        error("a+0", 2);
        error("1", -1);
        error("11", 1);
        error("1a", 1);
        error("10", 1);
        error("a1", 1);
        error("a0", 1);
        error("+", 0);
        error("a+", 2);
        error("a++", 2);
        error("ba", 1);
        error("aa", 1);
        error("aba", 2);
        error("abcd", -1);
        error("abcda", 4);
        error("e", 0);
        error("A", 0);
        error(" a", 0);
        error("a +b", 1);
        error("a+a+", 3);
        error("a+a+b", 3);
        error("a+ab+a+abc", 6);
        error("d+abcd+cd+1", -1);
        error("d+cd+c+bcd+bd+bc+b+b", 19);
        error("d+cd+c+c", 7);
        error("d+c+c", 5);
        error("d+c+cd", -1);
    }

    private static void lastProducts() {
        error(Bench.ALL_PRODUCTS, -1);
        error(Bench.ALL_PRODUCTS + "+", 48);
        error(Bench.ALL_PRODUCTS + "+a", 48);
        error(Bench.ALL_PRODUCTS.substring(0, 44), 44);
        error("a+abcd+abc+abd+ab+acd+ac+ad+a", 28);
        error("a+abcd+abc+abd+ab+acd+ac+a", 26);
        error("a+abcd+abc+abd+ab+acd+ac+a+", 26);
        error("a+abcd+abc+abd+ab+acd+ac+ab", 26);
        error("a+abcd+abc+abd+ab+acd+ac+ac", 26);
        error("a+abcd+abc+abd+ab+acd+ac+ad", -1);
        error("abcd+bcd+acd+cd+abd+bd+ad+d+abc+bc+ac+c+ab+b+a+", 47);
        error("abcd+bcd+acd+cd+abd+bd+ad+d+abc+bc+ac+c+ab+b+a+1", -1);
        error("abcd+bcd+acd+cd+abd+bd+ad+d+abc+bc+ac+c+ab+b+a+1+", 48);
        error("abcd+bcd+acd+cd+abd+bd+ad+d+abc+bc+ac+c+ab+b+a+a", 47);
    }

    private static void products() {
        Check.due("products of 0", Bench.withText("0").textProducts(), 0);
        Check.due("products of 1", Bench.withText("1").textProducts(), 1);
        Check.due("products of abcd", Bench.withText("abcd").textProducts(), 0x8000);
        Check.due("products of d+1+ab", Bench.withText("d+1+ab").textProducts(), 0x0109);
        Check.due("products of all", Bench.withText(Bench.ALL_PRODUCTS).textProducts(), 65535);
        String[] invalid = {"", "+", "a+", "a+a", "00", "a+a+", "1+1", "abcd+abcd", "x", "0+"};
        for (String text : invalid) {
            ZhegalkinBench bench = Bench.withText(text);
            Check.dueState("textProducts of '" + text + "'", bench::textProducts);
            Check.due("its length afterwards", bench.clearText(), text.length());
        }
    }

    private static void compare(String text) {
        ZhegalkinBench bench = Bench.withText(text);
        int error = Model.firstError(text);
        Check.due("textError of '" + text + "'", bench.textError(), error);
        if (error == -1) {
            Check.due("textProducts of '" + text + "'", bench.textProducts(),
                Model.numberOf(Model.productsOfText(text)));
        } else {
            Check.dueState("textProducts of '" + text + "'", bench::textProducts);
        }
    }

    private static void allShortTexts() {
        String alphabet = "01+abcde";
        for (int length = 0; length <= 6; length++) {
            int count = 1 << (3 * length);
            for (int number = 0; number < count; number++) {
                StringBuilder text = new StringBuilder();
                for (int i = 0; i < length; i++) {
                    text.append(alphabet.charAt(number >> (3 * i) & 7));
                }
                compare(text.toString());
            }
        }
    }

    /** Sums of all products in mixed orders, as they are, cut short and with one sign changed. */
    private static void manyLongTexts() {
        Steps steps = new Steps(17);
        for (int round = 0; round < 20000; round++) {
            String[] order = Model.PRODUCTS.clone();
            for (int i = 15; i > 0; i--) {
                int j = steps.below(i + 1);
                String held = order[i];
                order[i] = order[j];
                order[j] = held;
            }
            String text = String.join("+", order);
            compare(text);
            compare(text + "+");
            compare(text.substring(0, steps.below(48)));
            int place = steps.below(48);
            char changed = "01+abcd".charAt(steps.below(7));
            compare(text.substring(0, place) + changed + text.substring(place + 1));
            int twice = steps.below(16);
            order[twice] = order[steps.below(16)];
            compare(String.join("+", order));
        }
    }

    private static void anyCharacter() {
        for (int code = 0; code < 65536; code++) {
            char character = (char) code;
            boolean first = "01abcd".indexOf(character) >= 0;
            error(String.valueOf(character), first ? -1 : 0);
            boolean second = "+bcd".indexOf(character) >= 0;
            error("a" + character, !second ? 1 : character == '+' ? 2 : -1);
        }
    }
}
