/** The boundary cases that DOC.md names under "Texts" and under the promises 24 to 27: the pad and its orders. */
final class TextBoundaries extends Checks {
    private static final String DIGITS = "0123456789";

    private TextBoundaries() {
    }

    private static void faultIs(String text, int want) {
        ApplauseTallies x = made(y -> fill(y, text));
        due("count(19) of " + text, x.count(19), text.length());
        due("fault() of " + text, x.fault(), want);
        padIs(x, text);
    }

    private static void sound(String... texts) {
        for (String text : texts) {
            faultIs(text, NONE);
        }
    }

    /** Each sign that may stand in the pad and that is none of those. */
    private static String allBut(String signs) {
        StringBuilder others = new StringBuilder();
        for (char sign = 33; sign <= 126; sign++) {
            if (signs.indexOf(sign) < 0) {
                others.append(sign);
            }
        }
        return others.toString();
    }

    /** None of the other signs can stand behind the text: the fault is its length, whichever it is. */
    private static void onlyBehind(String text, String signs) {
        for (char sign : allBut(signs).toCharArray()) {
            faultIs(text + sign, text.length());
        }
        for (char sign : signs.toCharArray()) {
            int fault = made(x -> fill(x, text + sign)).fault();
            due("fault() of " + text + sign + " lies behind it", fault == NONE || fault > text.length() ? 1 : 0, 1);
        }
    }

    // ---- Texts: the pad and the bill

    @Says(in = "Texts", value = "The pad is a text of at most 80 characters.")
    static void eightyCharacters() {
        ApplauseTallies x = new ApplauseTallies();
        for (int length = 1; length <= 80; length++) {
            due("put() of the " + length + "th", x.put('a' + length % 26), length);
        }
        due("put() of one more", x.put('a'), TOO_MANY);
        due("count(19)", x.count(19), 80);
        due("sign(79)", x.sign(79), 'a' + 80 % 26);
        due("sign(80)", x.sign(80), NO_SUCH);
        due("wipe()", x.wipe(), 80);
        due("put() behind it", x.put('a'), 1);
    }

    @Says(in = "Texts", value = "A bill of the night so far is written as \"c\", its claps, \"e\", encores played, \"l\", lapsed ones, "
        + "\"k\", curtain calls")
    static void billOfTheNight() {
        ApplauseTallies x = new ApplauseTallies();
        billIs(x, "c0e0l0k0");
        x.set(ENCORE, 20);
        x.set(CALL, 1);
        x.set(LAPSE, 1);
        carried(x, "e0;c0*9");
        billIs(x, "c9e0l0k0,0:1");
        carried(x, "c0;p0;c0;w1;c0*88;k;k");
        billIs(x, "c99e1l1k2");
        x.clap(29);
        billIs(x, "c100e1l1k2");
        carried(x, "c0*99;c0*99;c0*99;c0*99;c0*99;c0*99;c0*99;c0*99;c0*99;c0*8");
        billIs(x, "c999e1l1k2");
        x.clap(0);
        billIs(x, "c1000e1l1k2");
        x.night();
        billIs(x, "c0e0l0k0");
    }

    private static void billIs(ApplauseTallies x, String want) {
        due("write()", x.write(), want.length());
        padIs(x, want);
    }

    @Says(in = "Texts", value = "lapsed ones")
    static void billOfManyEncores() {
        ApplauseTallies x = new ApplauseTallies();
        x.set(ENCORE, 20);
        x.set(LAPSE, 1);
        carried(x, "e0;c0;p0;c0;p0;c0;p0;c0;p0;c0;p0;c0;p0;c0;p0;c0;p0;c0;p0");
        billIs(x, "c9e9l0k0");
        carried(x, "c0;p0;e1;c0;w1;e1;c0;w1;e1;c0;w1;e1;c0;w1;e1;c0;w1");
        billIs(x, "c15e10l5k0");
        carried(x, "e1;c0;w1;e1;c0;w1;e1;c0;w1;e1;c0;w1;e1;c0;w1");
        billIs(x, "c20e10l10k0");
    }

    @Says(in = "Texts", value = "and, for each performer by numbers who owes some, \",\", the performer, \":\", how many.")
    static void billOfThoseWhoOwe() {
        ApplauseTallies x = new ApplauseTallies();
        x.set(ENCORE, 20);
        carried(x, "e5;c0;e0;c0");
        billIs(x, "c2e0l0k0,0:1,5:1");
        carried(x, "e5;c0;e5;c0;e5;c0;e5;c0;e5;c0;e5;c0");
        billIs(x, "c8e0l0k0,0:1,5:7");
        x.play(0);
        billIs(x, "c8e1l0k0,5:7");
        x.clap(0);
        x.pass(60);
        billIs(x, "c9e1l8k0");
        fullHouse(x);
        billIs(x, "c17e1l8k0,0:2,1:2,2:1,3:1,4:1,5:1");
        ApplauseTallies y = made(z -> z.set(ENCORE, 20));
        carried(y, "e5;c0;e5;c0;e5;c0;e5;c0;e5;c0;e5;c0;e5;c0;e5;c0;e5;c0");
        billIs(y, "c9e0l1k0,5:8");
    }

    // ---- Texts: the orders

    @Says(in = "Texts", value = "text = order { \";\" order }")
    static void oneOrderOrMore() {
        sound("k", "k;n", "k;n;k", "e0;c0*0;w0;p0;k;n;h0", "k;".repeat(39) + "e9");
        faultIs("", 0);
        faultIs(";", 0);
        faultIs(";k", 0);
        faultIs("k;", 2);
        faultIs("k;;k", 2);
        faultIs("k;n;", 4);
        faultIs("kn", 1);
        faultIs("k,n", 1);
        faultIs("k:n", 1);
    }

    @Says(in = "Texts", value = "order = \"e\" digit | \"c\" number [ \"*\" number ] | \"w\" number | \"p\" digit | \"k\" | \"n\" | \"h\" number")
    static void whatCanStand() {
        onlyBehind("", "ecwpknh");
        onlyBehind("k;", "ecwpknh");
        onlyBehind("e", DIGITS);
        onlyBehind("p", DIGITS);
        onlyBehind("c", DIGITS);
        onlyBehind("w", DIGITS);
        onlyBehind("h", DIGITS);
        onlyBehind("k", ";");
        onlyBehind("n", ";");
        onlyBehind("e5", ";");
        onlyBehind("p5", ";");
        onlyBehind("w5", DIGITS + ";");
        onlyBehind("h5", DIGITS + ";");
        onlyBehind("c5", DIGITS + "*;");
        onlyBehind("w55", ";");
        onlyBehind("h55", ";");
        onlyBehind("c55", "*;");
        onlyBehind("c5*", DIGITS);
        onlyBehind("c55*", DIGITS);
        onlyBehind("c5*5", DIGITS + ";");
        onlyBehind("c5*55", ";");
    }

    @Says(in = "Texts", value = {"\"e\": ends() with a performer", "\"w\": pass()", "\"p\": play() an encore", "\"k\": call()",
        "\"n\": night()", "\"h\": pay()."})
    static void ordersAreCalls() {
        for (int performer = 0; performer < 10; performer++) {
            int who = performer;
            sameOrder("e" + who, x -> x.ends(who));
            sameOrder("p" + who, x -> x.play(who));
        }
        sameOrder("k", ApplauseTallies::call);
        sameOrder("n", ApplauseTallies::night);
        for (int number : new int[] {0, 1, 9, 10, 29, 30, 99}) {
            sameOrder("w" + number, x -> x.pass(number));
            sameOrder("h" + number, x -> x.pay(number));
            sameOrder("c" + number, x -> x.clap(number));
        }
    }

    /** An order does what its call does; where the call is refused, nothing is carried out. */
    private static void sameOrder(String order, Call call) {
        ApplauseTallies x = made(Checks::fullHouse);
        ApplauseTallies y = made(Checks::fullHouse);
        due("carryOut() of " + order, carried(x, order), call.on(y) >= 0 ? 1 : 0);
        alike("order " + order, tellings(y, false), tellings(x, false));
    }

    @Says(in = "Texts", value = "\"c\": clap() of a seat, so many times (once without), each an order of its own")
    static void soManyClaps() {
        ApplauseTallies x = made(y -> y.ends(0));
        due("carryOut() of c0", carried(x, "c0"), 1);
        due("of(0, 6)", x.of(0, 6), 1);
        due("carryOut() of c0*1", carried(x, "c0*1"), 1);
        due("of(0, 6)", x.of(0, 6), 2);
        due("carryOut() of c0*2", carried(x, "c0*2"), 2);
        due("of(0, 6)", x.of(0, 6), 4);
        due("carryOut() of c0*99", carried(x, "c0*99"), 99);
        due("of(0, 6)", x.of(0, 6), 103);
        due("carryOut() of c0*0", carried(x, "c0*0"), 0);
        due("of(0, 6)", x.of(0, 6), 103);
        due("carryOut() of c29*10;c0;c28*3", carried(x, "c29*10;c0;c28*3"), 14);
        due("of(29, 6)", x.of(29, 6), 10);
        due("of(0, 6): once without, behind one with", x.of(0, 6), 104);
        due("of(28, 6)", x.of(28, 6), 3);
        due("carryOut() of a full pad", carried(x, "e0;" + "c0*99;".repeat(12) + "c0*99"), 1 + 13 * 99);
        due("of(0, 6)", x.of(0, 6), 104 + 13 * 99);
    }

    @Says(in = "Texts", value = "A digit is 0 to 9, a number 0 to 99, without leading zeros.")
    static void digitsAndNumbers() {
        for (int digit = 0; digit <= 9; digit++) {
            sound("e" + digit, "p" + digit);
        }
        for (int number = 0; number <= 99; number++) {
            sound("w" + number, "h" + number, "c" + number + "*" + number);
        }
        for (String kind : new String[] {"w", "h", "c", "c7*"}) {
            for (char digit : DIGITS.toCharArray()) {
                faultIs(kind + "0" + digit, kind.length() + 1);
            }
            faultIs(kind + "-1", kind.length());
            faultIs(kind + "+1", kind.length());
        }
        faultIs("e00", 2);
        faultIs("p01", 2);
        // The signs before "0" and behind "9".
        faultIs("e/", 1);
        faultIs("e:", 1);
        faultIs("w/", 1);
        faultIs("w1:", 2);
    }

    @Says(in = "Texts", value = "The fault is the index of the first character that cannot stand at its place when the text is read "
        + "from left to right")
    static void firstFault() {
        faultIs("x", 0);
        faultIs("xy", 0);
        faultIs("kx;x", 1);
        faultIs("k;x;x", 2);
        faultIs("e;c", 1);
        faultIs("c1*;x", 3);
        faultIs("k;".repeat(39) + "kk", 79);
        faultIs("k;".repeat(39) + "k;", 80);
        faultIs("x".repeat(80), 0);
        faultIs("E1", 0);
        faultIs("c0e0l0k0", 2);
    }

    @Says(in = "Texts", value = "(also of a digit by which a number would be above 99)")
    static void digitAboveNinetyNine() {
        for (char digit : DIGITS.toCharArray()) {
            faultIs("w10" + digit, 3);
            faultIs("h99" + digit, 3);
            faultIs("c99" + digit, 3);
            faultIs("c1*10" + digit, 5);
            faultIs("c29*99" + digit, 6);
        }
        sound("w99", "h99", "c99", "c99*99");
        faultIs("w1000;x", 3);
    }

    @Says(in = "Texts", value = "if there is none and the text ends too early (also if it is empty), it is the length of the text.")
    static void endsTooEarly() {
        for (String text : new String[] {"", "e", "p", "w", "h", "c", "c1*", "c29*", "k;", "k;e", "c1;", "c1*2;", "n;c0*"}) {
            faultIs(text, text.length());
        }
        // The same at the very end of a full pad, behind which no character can be put any more.
        for (String end : new String[] {"", "e", "p", "w", "h", "c", "c1*", "c29*"}) {
            faultIs(ordersOf(80 - end.length()) + end, 80);
        }
    }

    /** Orders, each with its semicolon, that are so many characters long. */
    private static String ordersOf(int length) {
        return length % 2 == 0 ? "k;".repeat(length / 2) : "e1;" + "k;".repeat((length - 3) / 2);
    }

    // ---- Promise 24: put

    @Says(in = "Promise 24", value = {"its lowest 8 bits are the last character, the next 8 bits the one before, and so on",
        "Returns the length of the pad then"})
    static void putInOrder() {
        ApplauseTallies x = new ApplauseTallies();
        due("put('!')", x.put(0x21L), 1);
        due("put() of two", x.put(0x4142L), 3);
        due("put() of eight", x.put(0x7E7D7C7B24232221L), 11);
        padIs(x, "!AB~}|{$#\"!");
    }

    @Says(in = "Promise 24", value = "`characters`: 1 to 8 characters")
    static void oneToEight() {
        String text = "!A~z09*;";
        for (int length = 1; length <= 8; length++) {
            ApplauseTallies x = new ApplauseTallies();
            due("put() of " + length, x.put(packed(text.substring(0, length))), length);
            padIs(x, text.substring(0, length));
        }
    }

    @Says(in = "Promise 24", value = "BAD_VALUE if there is no character")
    static void noCharacter() {
        refused("put(0)", Checks::busy, x -> x.put(0), BAD_VALUE);
        refused("put(0) to an empty pad", x -> { }, x -> x.put(0), BAD_VALUE);
        refused("put(0) to a full pad", x -> fill(x, "x".repeat(80)), x -> x.put(0), BAD_VALUE);
    }

    @Says(in = "Promise 24", value = "a code is not 33 to 126")
    static void codesInTheirRange() {
        for (int length = 1; length <= 8; length++) {
            for (int place = 0; place < length; place++) {
                // As the first of several, 0 is no code but means that there are fewer.
                for (int code = place == length - 1 && length > 1 ? 1 : 0; code < 256; code++) {
                    long number = packed("abcdefgh".substring(0, length)) & ~(255L << 8 * place) | (long) code << 8 * place;
                    boolean fits = code >= 33 && code <= 126;
                    due("put(" + number + ")", new ApplauseTallies().put(number), fits ? length : BAD_VALUE);
                }
            }
        }
        for (int code : new int[] {1, 32, 127, 128, 255}) {
            refused("put(" + code + ")", Checks::busy, x -> x.put(code), BAD_VALUE);
            refused("put() with " + code + " behind", Checks::busy, x -> x.put('a' << 8 | code), BAD_VALUE);
        }
        refused("put(-1)", Checks::busy, x -> x.put(-1), BAD_VALUE);
        refused("put() of the least number", Checks::busy, x -> x.put(Long.MIN_VALUE), BAD_VALUE);
        refused("put() of the largest number", Checks::busy, x -> x.put(Long.MAX_VALUE), BAD_VALUE);
    }

    @Says(in = "Promise 24", value = {"8 bits that are 0 mean that there are no more characters, and everything above them has to be 0, too",
        "or a bit above 8 bits that are 0 is not 0"})
    static void nothingAboveZero() {
        for (int length = 1; length <= 6; length++) {
            long number = packed("abcdef".substring(0, length));
            due("put() of " + length, new ApplauseTallies().put(number), length);
            for (int bit = 8 * length + 8; bit < 64; bit++) {
                due("put() of " + length + " and the bit " + bit, new ApplauseTallies().put(number | 1L << bit), BAD_VALUE);
            }
        }
        for (int bit = 8; bit < 64; bit++) {
            due("put() of the bit " + bit, new ApplauseTallies().put(1L << bit), BAD_VALUE);
        }
        refused("put() of a hole", Checks::busy, x -> x.put(packed("a") << 16 | 'b'), BAD_VALUE);
        refused("put() of a hole below", Checks::busy, x -> x.put(packed("ab") << 8), BAD_VALUE);
        refused("put() of a hole below seven", Checks::busy, x -> x.put(packed("abcdefg") << 8), BAD_VALUE);
    }

    @Says(in = "Promise 24", value = "TOO_MANY if the pad would be longer than 80.")
    static void padTooLong() {
        for (int length = 1; length <= 8; length++) {
            String more = "abcdefgh".substring(0, length);
            String before = "x".repeat(80 - length);
            ApplauseTallies x = made(y -> fill(y, before));
            due("put() of " + length + " to " + before.length(), x.put(packed(more)), 80);
            padIs(x, before + more);
            refused("put() of " + length + " to one too many", y -> fill(y, before + "x"), y -> y.put(packed(more)), TOO_MANY);
            refused("put() of " + length + " to a full pad", y -> fill(y, "x".repeat(80)), y -> y.put(packed(more)), TOO_MANY);
        }
    }

    @Says(in = "Promise 24", value = "Appends characters to the pad.")
    static void putIsNoChange() {
        ApplauseTallies x = made(y -> y.pay(3));
        x.put('k');
        due("count(20)", x.count(20), 1);
        due("undo()", x.undo(), 0);
        padIs(x, "k");
    }

    // ---- Promise 25: wipe

    @Says(in = "Promise 25", value = "Empties the pad, and returns the length that it had.")
    static void wipes() {
        ApplauseTallies x = made(y -> y.pay(3));
        due("wipe() of an empty pad", x.wipe(), 0);
        x.put('k');
        due("wipe() of one", x.wipe(), 1);
        due("count(19)", x.count(19), 0);
        due("sign(0)", x.sign(0), NO_SUCH);
        due("fault()", x.fault(), 0);
        due("wipe() again", x.wipe(), 0);
        fill(x, "x".repeat(80));
        due("wipe() of a full pad", x.wipe(), 80);
        due("count(19)", x.count(19), 0);
        due("count(20): wipe() is no change", x.count(20), 1);
        due("count(10)", x.count(10), 8);
    }

    // ---- Promise 26: fault

    @Says(in = "Promise 26", value = "Returns the fault of the pad, NONE if there is none.")
    static void faultOfThePad() {
        faultIs("", 0);
        faultIs("k", NONE);
        faultIs("e9;c99*99;w99;p9;k;n;h99", NONE);
        faultIs("e10", 2);
        faultIs("k;".repeat(39) + "p0", NONE);
        ApplauseTallies x = new ApplauseTallies();
        x.put(packed("c1*"));
        due("fault() of c1*", x.fault(), 3);
        x.put('2');
        due("fault() of c1*2", x.fault(), NONE);
        x.put(';');
        due("fault() of c1*2;", x.fault(), 5);
        x.put('k');
        due("fault() of c1*2;k", x.fault(), NONE);
        x.put('k');
        due("fault() of c1*2;kk", x.fault(), 6);
        x.wipe();
        x.put('c');
        due("fault() of c behind a longer text", x.fault(), 1);
        quiet("fault()", Checks::busy, ApplauseTallies::fault);
    }

    // ---- Promise 27: carryOut

    @Says(in = "Promise 27", value = "Carries the orders of the pad out, one after the other, up to the first one that returns an error")
    static void upToTheFirstError() {
        String[] refused = {"e6", "e9", "p6", "p9", "p0", "c0", "c29", "c30", "c99", "w0", "k", "h30", "h99"};
        for (String order : refused) {
            ApplauseTallies x = new ApplauseTallies();
            due("carryOut() to " + order, carried(x, "h1;" + order + ";h2"), 1);
            due("count(10) behind " + order, x.count(10), 2);
            due("carryOut() of " + order + " as the first one", carried(x, order + ";h2"), 0);
            due("carryOut() to " + order + " as the last one", carried(x, "h2;h3;" + order), 2);
            due("count(10) behind " + order, x.count(10), 2 | 4 | 8);
        }
        ApplauseTallies x = made(Checks::lastNight);
        due("carryOut() to n behind 99", carried(x, "h1;n;h2"), 1);
        due("carryOut() to the claps of no seat", carried(x, "e0;c30*2;h2"), 1);
        due("count(10)", x.count(10), 2);
        ApplauseTallies y = new ApplauseTallies();
        due("carryOut() to an error of many claps", carried(y, "e0;c0*7;p0;p0;c0"), 9);
        due("count(3)", y.count(3), 7);
    }

    @Says(in = "Promise 27", value = "and empties the pad.")
    static void emptiesThePad() {
        for (String text : new String[] {"k", "h1", "h1;k;h2", "c0*0", "k;".repeat(39) + "k"}) {
            ApplauseTallies x = new ApplauseTallies();
            due("carryOut() of " + text, carried(x, text) >= 0 ? 0 : 1, 0);
            due("count(19) behind " + text, x.count(19), 0);
            due("sign(0) behind " + text, x.sign(0), NO_SUCH);
            due("carryOut() again", x.carryOut(), BAD_TEXT);
            due("put()", x.put('k'), 1);
        }
    }

    @Says(in = "Promise 27", value = "This is a change (one, with all of them; also if none is carried out).")
    static void oneChange() {
        ApplauseTallies x = made(y -> y.pay(9));
        carried(x, "h1;h2;e0;c0*9;w9;n");
        due("count(20) behind many orders", x.count(20), 2);
        carried(x, "k;h3");
        due("count(20) behind none", x.count(20), 3);
        carried(x, "c0*0");
        due("count(20) behind no claps", x.count(20), 4);
        due("undo()", x.undo(), 3);
        due("undo()", x.undo(), 2);
        due("count(10)", x.count(10), 1 << 9 | 2 | 4);
        due("undo() of all the orders at once", x.undo(), 1);
        due("count(10)", x.count(10), 1 << 9);
        due("count(1)", x.count(1), 0);
        due("count(2)", x.count(2), 0);
        due("of(0, 6)", x.of(0, 6), 0);
        due("undo()", x.undo(), 0);
        due("count(10)", x.count(10), 0);
        Script wiped = y -> {
            busy(y);
            y.wipe();
        };
        undone("carryOut() up to an error", wiped, y -> carried(y, "h1;n;e0;c0;k"));
        undone("carryOut() of none", wiped, y -> carried(y, "w0;h1"));
    }

    @Says(in = "Promise 27", value = "Returns how many orders were carried out")
    static void howMany() {
        due("carryOut() of one", carried(new ApplauseTallies(), "h0"), 1);
        due("carryOut() of none", carried(new ApplauseTallies(), "k"), 0);
        due("carryOut() of forty", carried(new ApplauseTallies(), "n;".repeat(39) + "n"), 40);
        due("carryOut() of the most", carried(new ApplauseTallies(), "e0;" + "c0*99;".repeat(12) + "c0*99"), 1288);
    }

    @Says(in = "Promise 27", value = "BAD_TEXT if the pad has a fault (then it stays).")
    static void badTextStays() {
        for (String text : new String[] {"", "x", "h1;", "h1;h2x", "h1;c0*", "h1;w100", "e0;c0*0;h01", "k;".repeat(40)}) {
            Script before = x -> {
                busy(x);
                fill(x, text);
            };
            refused("carryOut() of " + text, before, ApplauseTallies::carryOut, BAD_TEXT);
            ApplauseTallies x = made(before);
            x.carryOut();
            padIs(x, text);
        }
    }
}
