/** A test of its own for each sentence on the text and on promises 7 to 10 that names a boundary. */
public final class BoundaryTextTest {
    private static final String ALL_REVERSED =
        "abcd+bcd+acd+cd+abd+bd+ad+d+abc+bc+ac+c+ab+b+a+1";

    public static void main(String[] args) {
        terms();
        firstErrors();
        promises7And8();
        promises9And10();
        Check.end();
    }

    private static void terms() {
        Check.sentence("The text ... is empty at first", BoundaryTextTest::emptyAtFirst);
        Check.sentence("The text has at most 80 characters", BoundaryTextTest::atMost80);
        Check.sentence("A valid text is \"0\"", BoundaryTextTest::zeroAlone);
        Check.sentence("or one or more products", BoundaryTextTest::oneProduct);
        Check.sentence("one or more products: at most all 16", BoundaryTextTest::allProducts);
        Check.sentence("with \"+\" between two of them", BoundaryTextTest::plusBetween);
        Check.sentence("none of them twice", BoundaryTextTest::noneTwice);
        Check.sentence("in any order", BoundaryTextTest::anyOrder);
        Check.sentence("A product is written as \"1\" if it has no variables",
            BoundaryTextTest::oneHasNoVariables);
        Check.sentence("otherwise as its letters in the order of the alphabet",
            BoundaryTextTest::orderOfAlphabet);
        Check.sentence("\"0\" the function without any", BoundaryTextTest::zeroTellsNoProducts);
    }

    private static void firstErrors() {
        Check.sentence("the first character that no valid text can have at that place",
            BoundaryTextTest::noSuchCharacter);
        Check.sentence("no valid text ... can have at that place: all products that go on so are used",
            BoundaryTextTest::onlyUsedProducts);
        Check.sentence("no valid text (of any length): behind all 16 products",
            BoundaryTextTest::behindAllProducts);
        Check.sentence("the first error: what stands behind it changes nothing",
            BoundaryTextTest::behindTheError);
        Check.sentence("the text ends too early", BoundaryTextTest::endsAtPlus);
        Check.sentence("an empty text does", BoundaryTextTest::emptyTextEndsTooEarly);
        Check.sentence("one that ends with a product that was there before, but can still go on",
            BoundaryTextTest::usedButCanGoOn);
        Check.sentence("\"a+a\" has its first error at 3", () -> error("a+a", 3));
        Check.sentence("\"1+1\" ... at 2", () -> error("1+1", 2));
        Check.sentence("\"d+d\" at 2", () -> error("d+d", 2));
        Check.sentence("\"abcd+abcd\" at 8", () -> error("abcd+abcd", 8));
    }

    private static void promises7And8() {
        Check.sentence("Promise 7: any character", BoundaryTextTest::anyCharacter);
        Check.sentence("Promise 7: Returns the length of the text afterwards",
            BoundaryTextTest::lengthAfterwards);
        Check.sentence("Promise 7: Throws IllegalStateException if the text has 80 characters",
            BoundaryTextTest::fullRefuses);
        Check.sentence("Promise 7: a full text that was refused stays full",
            BoundaryTextTest::refusedStaysFull);
        Check.sentence("Promise 8: Returns the length that it had, of an empty text",
            BoundaryTextTest::clearEmpty);
        Check.sentence("Promise 8: Returns the length that it had, of each length up to the full one",
            BoundaryTextTest::clearEachLength);
        Check.sentence("Promise 8: Empties the text, a full one too", BoundaryTextTest::clearFull);
    }

    private static void promises9And10() {
        Check.sentence("Promise 9: NONE if the text is valid", BoundaryTextTest::noneIfValid);
        Check.sentence("Promise 9: of a full text", BoundaryTextTest::errorOfFullText);
        Check.sentence("Promise 10: the products of each single product",
            BoundaryTextTest::productsOfOne);
        Check.sentence("Promise 10: the products of \"0\" and of all 16",
            BoundaryTextTest::productsOfNoneAndAll);
        Check.sentence("Promise 10: Throws IllegalStateException if the text is not valid",
            BoundaryTextTest::productsRefused);
        Check.sentence("Promise 10: if the text is not valid: empty", BoundaryTextTest::productsOfEmpty);
        Check.sentence("Promises 9 and 10: asked again they answer the same",
            BoundaryTextTest::askedAgain);
    }

    private static void error(String text, int want) {
        Check.due("textError of '" + text + "'", Bench.withText(text).textError(), want);
    }

    private static void valid(String text) {
        error(text, ZhegalkinBench.NONE);
    }

    private static ZhegalkinBench full(char character) {
        return Bench.withText(String.valueOf(character).repeat(80));
    }

    // ---- terms

    private static void emptyAtFirst() {
        Check.due("clearText of a new bench", new ZhegalkinBench().clearText(), 0);
        Check.due("type on a new bench", new ZhegalkinBench().type('a'), 1);
    }

    private static void atMost80() {
        ZhegalkinBench bench = Bench.withText("a".repeat(79));
        Check.due("character 80", bench.type('a'), 80);
        Check.dueState("character 81", () -> bench.type('a'));
        Check.due("the length", bench.clearText(), 80);
    }

    private static void zeroAlone() {
        valid("0");
        error("00", 1);
        error("01", 1);
        error("0a", 1);
        error("0+", 1);
        error("0+1", 1);
        error("1+0", 2);
        error("a+0", 2);
        error("a0", 1);
        error("10", 1);
        error("ab+0", 3);
    }

    private static void oneProduct() {
        for (String product : Model.PRODUCTS) {
            valid(product);
        }
    }

    private static void allProducts() {
        Check.due("its length", Bench.ALL_PRODUCTS.length(), 48);
        valid(Bench.ALL_PRODUCTS);
        ZhegalkinBench bench = Bench.withText(Bench.ALL_PRODUCTS);
        Check.due("define", bench.define(0), 16);
    }

    private static void plusBetween() {
        valid("a+b");
        error("+", 0);
        error("+a", 0);
        error("a++b", 2);
        error("a+", 2);
        error("a+b+", 4);
        error("a,b", 1);
        error("a-b", 1);
        error("a b", 1);
        error("1a", 1);
        error("a1", 1);
    }

    /** The letter after which a product can't go on is d; "1" can't either. */
    private static void noneTwice() {
        for (String product : Model.PRODUCTS) {
            String twice = product + "+" + product;
            boolean isEnded = product.equals("1") || product.endsWith("d");
            error(twice, isEnded ? twice.length() - 1 : twice.length());
            Check.dueState("textProducts of " + twice, Bench.withText(twice)::textProducts);
        }
        // With another one between the two, and after many others.
        error("d+a+d", 4);
        error("bd+c+1+bd", 8);
        error("1+a+b+ab+c+ac+bc+abc+d+ad+1", 26);
    }

    private static void anyOrder() {
        for (String first : Model.PRODUCTS) {
            for (String second : Model.PRODUCTS) {
                if (!first.equals(second)) {
                    valid(first + "+" + second);
                }
            }
        }
        valid(ALL_REVERSED);
        Check.due("the products", Bench.withText(ALL_REVERSED).textProducts(), 65535);
    }

    private static void oneHasNoVariables() {
        valid("1");
        Check.due("the products of 1", Bench.withText("1").textProducts(), 1);
        error("11", 1);
        error("1a", 1);
        error("1d", 1);
        error("a1", 1);
        error("abcd1", 4);
    }

    private static void orderOfAlphabet() {
        String letters = "abcd";
        for (int first = 0; first < 4; first++) {
            for (int second = 0; second < 4; second++) {
                String text = "" + letters.charAt(first) + letters.charAt(second);
                error(text, first < second ? ZhegalkinBench.NONE : 1);
                error("1+" + text, first < second ? ZhegalkinBench.NONE : 3);
            }
        }
        error("acb", 2);
        error("abdc", 3);
        error("bcda", 3);
        error("abcdd", 4);
    }

    private static void zeroTellsNoProducts() {
        ZhegalkinBench bench = Bench.withText("0");
        Check.due("textProducts", bench.textProducts(), 0);
        Check.due("define", bench.define(5), 0);
        Check.due("tableOf", bench.tableOf(5), 0);
    }

    // ---- the first error

    private static void noSuchCharacter() {
        String can = "01abcd";
        for (int code = 0; code < 65536; code++) {
            char character = (char) code;
            error(String.valueOf(character), can.indexOf(character) < 0 ? 0 : ZhegalkinBench.NONE);
        }
        String afterB = "+cd";
        for (int code = 0; code < 65536; code++) {
            char character = (char) code;
            int want = character == '+' ? 2 : ZhegalkinBench.NONE;
            error("b" + character, afterB.indexOf(character) < 0 ? 1 : want);
        }
        String afterPlus = "1acd";
        for (int code = 0; code < 65536; code++) {
            char character = (char) code;
            boolean isB = character == 'b';
            int want = isB ? 3 : ZhegalkinBench.NONE;
            error("b+" + character, isB || afterPlus.indexOf(character) >= 0 ? want : 2);
        }
    }

    private static void onlyUsedProducts() {
        // Behind "ab" come c (abc, abcd) and d (abd): each is refused when all of its are used.
        error("abcd+abc+abc", 11);
        error("abcd+abc+abd", ZhegalkinBench.NONE);
        error("abd+abd", 6);
        error("abd+abc", ZhegalkinBench.NONE);
        error("abd+abc+abc", 11);
        error("cd+c+c", 5);
        error("cd+c+d", ZhegalkinBench.NONE);
        error("c+c", 3);
        error("c+cd+c", 5);
        error("b+bc+bd+bcd+b", 12);
        error("b+bc+bd+b", 9);
        error("b+bc+bd+bc", 10);
        error("b+bc+bd+bcd", ZhegalkinBench.NONE);
        // All eight products with a: none can begin with it again.
        error("a+ab+ac+abc+ad+abd+acd+abcd+a", 28);
        error("a+ab+ac+abc+ad+abd+acd+abcd+b", ZhegalkinBench.NONE);
        error("a+ab+ac+abc+ad+abd+abcd+a", 25);
        error("a+ab+ac+abc+ad+abd+abcd+ab", 25);
        error("a+ab+ac+abc+ad+abd+abcd+ac", 26);
        error("a+ab+ac+abc+ad+abd+abcd+ad", 25);
        error("a+ab+ac+abc+ad+abd+abcd+acd", ZhegalkinBench.NONE);
    }

    private static void behindAllProducts() {
        for (char next : "+01abcd".toCharArray()) {
            error(Bench.ALL_PRODUCTS + next, 48);
            error(ALL_REVERSED + next, 48);
        }
        // One product less, and a "+" can come.
        error(Bench.ALL_PRODUCTS.substring(0, 43) + "+", 44);
        error(ALL_REVERSED.substring(0, 46) + "+", 47);
        error(ALL_REVERSED.substring(0, 46) + "++", 47);
    }

    private static void behindTheError() {
        error("a+x+a", 2);
        error("x0", 0);
        error("aab+b", 1);
        error("d+d+a+0", 2);
        error("0+a+b", 1);
        error("a+a+", 3);
    }

    private static void endsAtPlus() {
        error("1+", 2);
        error("a+", 2);
        error("abcd+", 5);
        error("a+b+c+", 6);
    }

    private static void emptyTextEndsTooEarly() {
        error("", 0);
        ZhegalkinBench bench = Bench.withText("ab");
        bench.clearText();
        Check.due("textError of a text that was emptied", bench.textError(), 0);
    }

    private static void usedButCanGoOn() {
        error("a+a", 3);
        error("c+c", 3);
        error("abc+abc", 7);
        error("ab+a+ab", 7);
        error("a+b+a", 5);
        ZhegalkinBench bench = Bench.withText("a+a");
        bench.type('b');
        Check.due("textError when it went on", bench.textError(), ZhegalkinBench.NONE);
        Check.due("textProducts when it went on", bench.textProducts(), 1 << 1 | 1 << 3);
    }

    // ---- promises 7 and 8

    private static void anyCharacter() {
        ZhegalkinBench bench = new ZhegalkinBench();
        char[] characters = {
            0, 1, ' ', '0', '9', '/', '2', 'A', '`', 'e', 127, 128, 255, 256, '0' + 256, 'a' + 256,
            '+' + 256, 'a' + 32768, 0x7FFF, 0x8000, 0xD800, 0xDFFF, 0xFFFE, 0xFFFF
        };
        for (int i = 0; i < characters.length; i++) {
            Check.due("type of " + (int) characters[i], bench.type(characters[i]), i + 1);
        }
        Check.due("clearText", bench.clearText(), characters.length);
        // Such as a valid one is but for its high bits.
        error(String.valueOf((char) ('a' + 256)), 0);
        error(String.valueOf((char) ('0' + 256)), 0);
        error("a" + (char) ('+' + 256), 1);
        error("a" + (char) ('b' + 32768), 1);
        error("a" + (char) ('b' + 32), 1);
    }

    private static void lengthAfterwards() {
        ZhegalkinBench bench = new ZhegalkinBench();
        for (int length = 1; length <= 80; length++) {
            Check.due("type number " + length, bench.type('+'), length);
        }
    }

    private static void fullRefuses() {
        for (char character : "a0+x".toCharArray()) {
            ZhegalkinBench bench = full('b');
            Check.dueState("type of " + character, () -> bench.type(character));
            Check.dueState("type of it again", () -> bench.type(character));
        }
    }

    private static void refusedStaysFull() {
        ZhegalkinBench bench = Bench.withText(Bench.ALL_PRODUCTS + "?".repeat(32));
        Check.dueState("type", () -> bench.type('a'));
        Check.due("textError", bench.textError(), 48);
        Check.due("clearText", bench.clearText(), 80);
        Check.due("type afterwards", bench.type('c'), 1);
        Check.due("textProducts afterwards", bench.textProducts(), 16);
    }

    private static void clearEmpty() {
        ZhegalkinBench bench = new ZhegalkinBench();
        Check.due("clearText", bench.clearText(), 0);
        Check.due("clearText again", bench.clearText(), 0);
        bench.type('a');
        bench.clearText();
        Check.due("clearText after a clearText", bench.clearText(), 0);
    }

    private static void clearEachLength() {
        for (int length = 1; length <= 80; length++) {
            ZhegalkinBench bench = Bench.withText("d".repeat(length));
            Check.due("clearText of " + length, bench.clearText(), length);
        }
    }

    private static void clearFull() {
        ZhegalkinBench bench = full('a');
        bench.clearText();
        Check.due("textError of the empty text", bench.textError(), 0);
        for (int length = 1; length <= 80; length++) {
            Check.due("type number " + length, bench.type('0'), length);
        }
        Check.dueState("type of a text that is full anew", () -> bench.type('0'));
        // No character of a text from before is left.
        bench.clearText();
        bench.type('a');
        Check.due("textError of a", bench.textError(), ZhegalkinBench.NONE);
    }

    // ---- promises 9 and 10

    private static void noneIfValid() {
        Check.due("NONE", ZhegalkinBench.NONE, -1);
        for (String text : new String[] {"0", "1", "a", "d", "abcd", "a+1", Bench.ALL_PRODUCTS}) {
            Check.due("textError of " + text, Bench.withText(text).textError(), -1);
        }
    }

    private static void errorOfFullText() {
        Check.due("of a+", full('a').textError(), 1);
        Check.due("of 0", full('0').textError(), 1);
        Check.due("of +", full('+').textError(), 0);
        Check.due("of all products", Bench.withText(Bench.ALL_PRODUCTS + "+".repeat(32)).textError(), 48);
        Check.due("of all products but one",
            Bench.withText(ALL_REVERSED.substring(0, 46) + "+".repeat(34)).textError(), 47);
        Check.dueState("textProducts", full('a')::textProducts);
    }

    private static void productsOfOne() {
        for (int product = 0; product < 16; product++) {
            String text = Model.PRODUCTS[product];
            Check.due("products of " + text, Bench.withText(text).textProducts(), 1 << product);
        }
    }

    private static void productsOfNoneAndAll() {
        Check.due("products of 0", Bench.withText("0").textProducts(), 0);
        Check.due("products of all", Bench.withText(Bench.ALL_PRODUCTS).textProducts(), 65535);
    }

    private static void productsRefused() {
        String[] texts = {
            "+", "a+", "a+a", "00", "a+a+", "1+1", "abcd+abcd", "x", "0+", "ba", "a+0", "0a", "1a",
            "a+b+a", Bench.ALL_PRODUCTS + "+", Bench.ALL_PRODUCTS + "+1", "a".repeat(80)
        };
        for (String text : texts) {
            Check.dueState("textProducts of " + text, Bench.withText(text)::textProducts);
        }
    }

    private static void productsOfEmpty() {
        Check.dueState("textProducts of a new bench", new ZhegalkinBench()::textProducts);
        ZhegalkinBench bench = Bench.withText("ab+1");
        Check.due("textProducts", bench.textProducts(), 9);
        bench.clearText();
        Check.dueState("textProducts of a text that was emptied", bench::textProducts);
    }

    private static void askedAgain() {
        ZhegalkinBench bench = Bench.withText("d+ab");
        for (int i = 0; i < 3; i++) {
            Check.due("textProducts", bench.textProducts(), 1 << 8 | 1 << 3);
            Check.due("textError", bench.textError(), ZhegalkinBench.NONE);
        }
        bench.type('+');
        for (int i = 0; i < 3; i++) {
            Check.due("textError of d+ab+", bench.textError(), 5);
            Check.dueState("textProducts of d+ab+", bench::textProducts);
        }
        bench.type('b');
        Check.due("textProducts of d+ab+b", bench.textProducts(), 1 << 8 | 1 << 3 | 1 << 2);
        Check.due("clearText", bench.clearText(), 6);
        bench.type('0');
        Check.due("textProducts of 0", bench.textProducts(), 0);
    }
}
