/** Promises 11 to 13: THE TAPE, TEXTS and their FAULTS, what they give; each sentence that names an edge. */
public final class TextEdgesTest extends Edges {
    private static final String DIGITS = "0123456789";
    private static final String SIGNS = "|&<=>+-*/%";
    private static final String NO_COMPARING = "|&+-*/%";

    private void feeding() {
        sentence(11, "n is 1 .. 8");
        edges("feed(0, ?)", 1, 8);
        due("count(7)", 9);
        sentence(11, "how many there are");
        due("feed(0, 8)", 8);
        due("feed(0, 1)", 9);
        due("feed(-1, 8)", 17);
        due("count(7)", 17);
        sentence(11, "THE TAPE has at most 50 bytes: FULL");
        does("feed(0, 8)", "feed(0, 8)", "feed(0, 8)", "feed(0, 8)", "feed(0, 8)", "feed(0, 3)");
        due("feed(0, 8)", FULL);
        due("count(7)", 43);
        due("feed(0, 7)", 50);
        each("feed(0, ?)", FULL, 1, 8);
        due("count(7)", 50);
        due("told(4)", 3);
        sentence(11, "BEYOND is asked ahead of FULL");
        tape("12345678901234567890123456789012345678901234567890");
        each("feed(0, ?)", BEYOND, 0, 9, MIN, MAX);
        due("feed(0, 1)", FULL);
        sentence(11, "a refused one brings nothing to THE TAPE");
        tape("1+1+1+1+1+1+1+1+1+1+1+1+1+1+1+1+1+1+1+1+1+1+1+1");
        due("feed(3355443, 4)", FULL);
        due("feed(51, 0)", BEYOND);
        due("text(1)", 1);
        due("law(1, 0, 0, 0)", 9);
        sentence(11, "the n lowest bytes: what stands above them doesn't come");
        due("feed(-148, 1)", 1);
        due("text(0)", 1);
        due("law(0, 3, 0, 0)", 3);
        // 0x6c2b73 is "s+l", the lowest first.
        due("feed(" + 0x7f6c2b73L + ", 3)", 3);
        due("text(0)", 1);
        due("law(0, 1, 2, 0)", 3);
        sentence(11, "the lowest first, the eighth last");
        dueText(0, "10-s-s-l", 1);
        due("law(0, 3, 2, 0)", 3);
        dueText(0, "10-s-s-\u00ec", -17);
        sentence(11, "one that comes behind stands behind");
        does("feed(57, 1)", "feed(45, 1)", "feed(115, 1)");
        due("text(0)", 1);
        due("law(0, 0, 7, 0)", 2);
    }

    private void taking() {
        sentence(12, "USES are 0 and 1; BEYOND leaves THE TAPE");
        tape("3");
        each("text(?)", BEYOND, -1, 2, MIN, MAX);
        due("count(7)", 1);
        due("text(1)", 1);
        due("count(7)", 0);
        due("law(1, 0, 0, 0)", 3);
        sentence(12, "THE TAPE is empty then, by a FAULT too");
        tape("+");
        due("text(0)", -10);
        due("count(7)", 0);
        due("feed(108, 1)", 1);
        due("text(0)", 1);
        due("count(7)", 0);
        sentence(12, "an empty THE TAPE ends too early");
        each("text(?)", -10, 0, 1);
        sentence(12, "in place of one ahead; a FAULT leaves the one ahead");
        text(0, "3");
        text(1, "7");
        dueText(0, "2+", -12);
        due("law(0, 0, 0, 0)", 3);
        dueText(1, "8)", -11);
        due("law(1, 0, 0, 0)", 7);
        text(0, "1");
        due("law(0, 0, 0, 0)", 1);
        due("law(1, 0, 0, 0)", 7);
        text(1, "0");
        due("law(1, 9, 9, 9)", 0);
        due("law(0, 0, 0, 0)", 1);
        sentence(12, "a FAULT is no ERROR");
        dueText(0, "x", -10);
        dueText(1, "l", -10);
        each("told(?)", 0, 1, 2, 3, 4, 5);
        sentence(12, "a TEXT of 50 bytes, and FAULTS at its last byte and behind it");
        String most = "1+".repeat(24);
        dueText(0, most + "11", 1);
        dueText(0, most + "1)", -59);
        dueText(0, most + "1+", -60);
        dueText(0, "(" + most + "1", -60);
        dueText(0, "+" + most + "1", -10);
        due("law(0, 0, 0, 0)", 4);
    }

    private void opening() {
        sentence(12, "at most 5 of ! and ( are open at once");
        dueText(0, "!!!!!l", 1);
        dueText(0, "!!!!!!l", -15);
        dueText(0, "(((((l)))))", 1);
        dueText(0, "((((((l))))))", -15);
        dueText(0, "!(!(!l))", 1);
        dueText(0, "!(!(!(l)))", -15);
        dueText(0, "(!(!(l)))", 1);
        dueText(0, "(!(!(!l)))", -15);
        dueText(0, "!!!!!(l)", -15);
        dueText(0, "(((((!l)))))", -15);
        dueText(0, "!!!!!!", -15);
        dueText(0, "!!!!!", -15);
        sentence(12, "what has closed is not open");
        dueText(0, "!l+!l+!l+!l+!l+!l", 1);
        dueText(0, "(l)+(l)+(l)+(l)+(l)+(l)", 1);
        dueText(0, "(((((l)))))*(((((s)))))", 1);
        dueText(0, "!!!!!l+!!!!!s", 1);
        dueText(0, "((((!l+!s-!g))))", 1);
        dueText(0, "((((!l+(s))))*!!!!!g)", -28);
        dueText(0, "((((!l+(s))))*!!!!g)", 1);
        dueText(0, "(((((l+!s)))))", -17);
        dueText(0, "((((l+!s))))", 1);
        dueText(0, "(((((l))))+(s))", 1);
        dueText(0, "!(l)*!(l)*!(l)", 1);
        sentence(12, "a NUMBER has 1 to 4 digits");
        dueText(0, "0", 1);
        dueText(0, "9999", 1);
        dueText(0, "0000", 1);
        dueText(0, "00000", -14);
        dueText(0, "12345", -14);
        dueText(0, "l+12345", -16);
        dueText(0, "(12345)", -15);
        dueText(0, "1234+5678", 1);
        sentence(12, "NAMES by USE");
        dueText(0, "l+s+g", 1);
        dueText(1, "e+s+g", 1);
        dueText(0, "s+g+e", -14);
        dueText(1, "s+g+l", -14);
        dueText(0, "L", -10);
    }

    private static String bytes(String prefix, int b) {
        return prefix + (char) b;
    }

    /** Each of the 256 bytes behind a prefix: with some it is a TEXT, with some it goes on, with others it doesn't. */
    private void next(int use, String prefix, String ends, String goesOn) {
        for (int b = 0; b < 256; b++) {
            if (b % 128 == 0) {
                sentence(12, "the first byte with which no TEXT goes on, behind '" + prefix + "'");
            }
            int want = -10 - prefix.length();
            if (ends.indexOf(b) >= 0) {
                want = 1;
            } else if (goesOn.indexOf(b) >= 0) {
                want--;
            }
            dueText(use, bytes(prefix, b), want);
        }
    }

    private void nextBytes() {
        next(0, "", DIGITS + "lsg", "!(");
        next(1, "", DIGITS + "esg", "!(");
        next(0, "l", "", SIGNS);
        next(1, "e", "", SIGNS);
        next(0, "12", DIGITS, SIGNS);
        next(0, "123", DIGITS, SIGNS);
        next(0, "1234", "", SIGNS);
        next(0, "l<s", "", NO_COMPARING);
        next(0, "l=1+s", "", NO_COMPARING);
        next(0, "l>1*s", "", NO_COMPARING);
        next(0, "1<2|3", DIGITS, SIGNS);
        next(0, "1<2&g", "", SIGNS);
        next(0, "(l", ")", SIGNS);
        next(0, "(1<s", ")", NO_COMPARING);
        next(0, "(1<2)", "", SIGNS);
        next(0, "(1<2)<g", "", NO_COMPARING);
        next(0, "!", DIGITS + "lsg", "!(");
        next(0, "!l", "", SIGNS);
        next(0, "!!!!", DIGITS + "lsg", "!(");
        next(0, "!!!!!", DIGITS + "lsg", "");
        next(0, "((((", "", DIGITS + "lsg!(");
        next(0, "(((((", "", DIGITS + "lsg");
        next(0, "!!!!!l*", DIGITS + "lsg", "!(");
        next(0, "((((!l*", "", DIGITS + "lsg!(");
        for (int i = 0; i < SIGNS.length(); i++) {
            next(0, "l" + SIGNS.charAt(i), DIGITS + "lsg", "!(");
        }
    }

    private void holding() {
        sentence(13, "USES are 0 and 1");
        each("law(?, 0, 0, 0)", BEYOND, -1, 2, MIN, MAX);
        each("law(?, 0, 0, 0)", 0, 0, 1);
        sentence(13, "LEFT is held within 0 to 4; without a TEXT l");
        each("law(0, ?, 9, 9)", 0, 0, -1, MIN);
        each("law(0, ?, 9, 9)", 4, 4, 5, MAX);
        due("law(0, 1, 9, 9)", 1);
        due("law(0, 3, 9, 9)", 3);
        text(0, "s");
        each("law(0, 9, ?, 9)", 0, 0, -1, MIN);
        each("law(0, 0, ?, 0)", 4, 4, 5, MAX);
        sentence(13, "TASTE is held within 0 to 9; without a TEXT e");
        each("law(1, ?, 9, 9)", 0, 0, -1, MIN);
        each("law(1, ?, 0, 0)", 9, 9, 10, MAX);
        due("law(1, 1, 9, 9)", 1);
        due("law(1, 8, 9, 9)", 8);
        text(1, "g");
        each("law(1, 9, 9, ?)", 0, 0, -1, MIN);
        each("law(1, 0, 0, ?)", 9, 9, 10, MAX);
        sentence(13, "NAMES in order as a, b, c");
        text(0, "l*100+s*10+g=123");
        due("law(0, 1, 2, 3)", 1);
        due("law(0, 3, 2, 1)", 0);
        text(1, "e*100+s*10+g=123");
        due("law(1, 1, 2, 3)", 1);
        due("law(1, 1, 3, 2)", 0);
        sentence(13, "a NUMBER is what its digits say");
        text(1, "9999=e");
        due("law(1, 9999, 0, 0)", 1);
        due("law(1, 9998, 0, 0)", 0);
        text(1, "0070=e");
        due("law(1, 70, 0, 0)", 1);
        text(1, "1023-e");
        due("law(1, 1020, 0, 0)", 3);
    }

    private void wrapping() {
        sentence(13, "ints that wrap");
        text(1, "e+1<e");
        due("law(1, MAX, 0, 0)", 1);
        due("law(1, 2147483646, 0, 0)", 0);
        text(1, "e-1>e");
        due("law(1, MIN, 0, 0)", 1);
        due("law(1, -2147483647, 0, 0)", 0);
        text(1, "e*s=g");
        due("law(1, 65536, 65536, 0)", 1);
        due("law(1, 46341, 46341, -2147479015)", 1);
        due("law(1, MIN, -1, MIN)", 1);
        text(1, "0-e=e");
        due("law(1, MIN, 0, 0)", 1);
        due("law(1, MAX, 0, 0)", 0);
        sentence(13, "/ is cut (toward 0), % the rest that it leaves");
        text(1, "e/s=g");
        int[][] quotients = {{7, 2, 3}, {-7, 2, -3}, {7, -2, -3}, {-7, -2, 3}, {1, 2, 0}, {-1, 2, 0}, {MIN, -1, MIN}};
        for (int[] q : quotients) {
            due("law(1, " + q[0] + ", " + q[1] + ", " + q[2] + ")", 1);
        }
        text(1, "e%s=g");
        int[][] rests = {{7, 4, 3}, {-7, 4, -3}, {7, -4, 3}, {-7, -4, -3}, {8, 4, 0}, {MIN, -1, 0}, {3, MIN, 3}};
        for (int[] r : rests) {
            due("law(1, " + r[0] + ", " + r[1] + ", " + r[2] + ")", 1);
        }
        sentence(13, "/ and % by 0 are 0");
        text(1, "e/s=0");
        each("law(1, ?, 0, 0)", 1, 0, 5, -5, MIN, MAX);
        text(1, "e%s=0");
        each("law(1, ?, 0, 0)", 1, 0, 5, -5, MIN, MAX);
        text(1, "e/(s-s)/0%0+7");
        due("law(1, 5, 5, 5)", 7);
    }

    private void truth() {
        sentence(13, "what is not 0 is true; | & ! are 1 or 0");
        text(1, "e|s");
        due("law(1, 0, 0, 0)", 0);
        due("law(1, 8, 4, 0)", 1);
        due("law(1, -1, 0, 0)", 1);
        due("law(1, 0, MIN, 0)", 1);
        text(1, "e&s");
        due("law(1, 6, 5, 0)", 1);
        due("law(1, 1, 2, 0)", 1);
        due("law(1, -1, MIN, 0)", 1);
        due("law(1, 0, 5, 0)", 0);
        due("law(1, 5, 0, 0)", 0);
        due("law(1, 0, 0, 0)", 0);
        text(1, "!e");
        due("law(1, 0, 0, 0)", 1);
        each("law(1, ?, 0, 0)", 0, 1, 7, -1, MIN, MAX);
        text(1, "!!e");
        each("law(1, ?, 0, 0)", 1, 1, 7, -1, MIN);
        due("law(1, 0, 0, 0)", 0);
        compared("<", 1, 0, 0);
        compared("=", 0, 1, 0);
        compared(">", 0, 0, 1);
    }

    private void compared(String sign, int less, int same, int more) {
        sentence(13, sign + " is 1 or 0, on either side of what is alike");
        text(1, "e" + sign + "s");
        due("law(1, 6, 7, 0)", less);
        due("law(1, 7, 7, 0)", same);
        due("law(1, 8, 7, 0)", more);
        due("law(1, -1, 0, 0)", less);
        due("law(1, 0, -1, 0)", more);
        due("law(1, MIN, MAX, 0)", less);
        due("law(1, MAX, MIN, 0)", more);
        due("law(1, MIN, MIN, 0)", same);
    }

    private void longest() {
        sentence(13, "a TEXT of 50 bytes, each of them a NAME or a sign, is worked out whole");
        text(1, "!e" + "+e".repeat(24));
        due("law(1, 0, 0, 0)", 1);
        due("law(1, 1, 0, 0)", 9);
        text(1, "!e" + "-e".repeat(24));
        due("law(1, 0, 0, 0)", 1);
        due("law(1, -1, 0, 0)", 9);
        text(1, "!" + "e-".repeat(23) + "e/s");
        due("law(1, 0, 0, 0)", 1);
        due("law(1, -1, 5, 0)", 9);
        sentence(13, "a TEXT with as much still to be joined as its bytes leave room for");
        text(1, "1&1<1+1*(".repeat(4) + "1&1<1+1*e))))");
        due("law(1, 0, 0, 0)", 0);
        due("law(1, 1, 0, 0)", 1);
    }

    private void given(String text, int a, int b, int c, int want) {
        text(1, text);
        due("law(1, " + a + ", " + b + ", " + c + ")", want);
    }

    private void orders() {
        sentence(13, "which sign binds closer, and from the left");
        given("e-s-g", 9, 3, 2, 4);
        given("e-s+g", 5, 3, 2, 4);
        given("e/s/g", 8, 2, 2, 2);
        given("e%s%g", 7, 4, 2, 1);
        given("e*s/g", 7, 2, 4, 3);
        given("e/s*g", 7, 2, 2, 6);
        given("e%s*g", 7, 4, 2, 6);
        given("e+s*g", 1, 2, 3, 7);
        given("e*s+g", 2, 3, 1, 7);
        given("e-s/g", 9, 4, 2, 7);
        given("e+s%g", 1, 7, 4, 4);
        given("e<s+g", 4, 2, 3, 1);
        given("e+s<g", 1, 1, 3, 1);
        given("e+s>g", 2, 1, 2, 1);
        given("e&s<g", 0, 1, 1, 0);
        given("e<s&g", 1, 2, 0, 0);
        given("e|s&g", 1, 0, 0, 1);
        given("e&s|g", 0, 0, 1, 1);
        given("e|s=g", 0, 3, 4, 0);
        given("!e+s", 5, 3, 0, 3);
        given("!e*s", 0, 7, 0, 7);
        given("!e=s", 2, 1, 0, 0);
        given("!e&s", 0, 0, 0, 0);
        given("!(e+s)", 1, 1, 0, 0);
        given("(e+s)*g", 1, 2, 3, 9);
        given("e-(s-g)", 9, 3, 2, 8);
        given("(e<s)+(s>e)*3", 1, 2, 0, 4);
        given("e|s|g", 0, 0, 9, 1);
        given("e&s&g", 3, 3, 0, 0);
    }

    public static void main(String[] args) {
        TextEdgesTest t = new TextEdgesTest();
        t.feeding();
        t.taking();
        t.opening();
        t.nextBytes();
        t.holding();
        t.wrapping();
        t.truth();
        t.longest();
        t.orders();
        t.end(11, 13);
    }
}
