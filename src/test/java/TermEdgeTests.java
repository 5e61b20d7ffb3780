/** The boundaries that the document's terms name, sentence by sentence: at each, just below and just above it. */
public final class TermEdgeTests {
    private static final Check check = new Check("TermEdgeTests");

    private static final String[] COUNTS = {"*", "+", "?", "{0}", "{9}", "{0,}", "{9,}", "{0,0}", "{0,9}", "{9,9}"};

    public static void main(String[] args) {
        none();
        patternLength();
        patternCodes();
        rows();
        repeats();
        countsAndLazy();
        digits();
        mNotAboveN();
        plainAtoms();
        period();
        escapes();
        escapedClasses();
        oneItemOrMore();
        itemCharacters();
        ranges();
        rangeEnds();
        inverted();
        sixNumbers();
        numbersInOrder();
        eightDeep();
        firstWrongPosition();
        onlySomethingMissing();
        seventhNumber();
        tooDeep();
        instructions();
        instructionsBySort();
        hugePrograms();
        check.end();
    }

    private static void comes(String text, Object want) {
        check.due("compile of " + text, Check.outcome(text), want);
    }

    private static void error(String text, int at) {
        comes(text, "error at " + at);
    }

    /** Whether the pattern matches the one character with this code. */
    private static boolean takes(String pattern, int code) {
        return Check.walked(pattern, false, String.valueOf((char) code)).matched();
    }

    private static void taken(String pattern, int... codes) {
        for (int code : codes) {
            check.due(pattern + " takes code " + code, takes(pattern, code), true);
        }
    }

    private static void notTaken(String pattern, int... codes) {
        for (int code : codes) {
            check.due(pattern + " takes code " + code, takes(pattern, code), false);
        }
    }

    private static int standsFor(String atom) {
        return Check.compiled(atom).instruction(1, 1);
    }

    private static void none() {
        check.sentence("NONE = -1: Nothing there");
        check.due("NONE", PatternWalk.NONE, -1);
        check.due("an answer that is NONE", new Counted().fed(), PatternWalk.NONE);
    }

    private static void patternLength() {
        check.sentence("THE PATTERN has at most 48 characters");
        comes(Check.times("a", 47), 50);
        comes(Check.times("a", 48), 51);
        Counted full = Check.written(Check.times("a", 48));
        check.due("the 49th", full.pattern('a'), false);
        check.due("a 49th that would be wrong there", full.pattern('*') || full.pattern(')'), false);
        check.due("the 48 are as they were", Check.outcome(full), "51");
        check.due("the last of the 48", Check.walked(Check.times("a", 47) + "b", false,
            Check.times("a", 47) + "b").matched(), true);
    }

    private static void patternCodes() {
        check.sentence("with codes 32 .. 126");
        int[] codes = {0, 31, 32, 33, 125, 126, 127, 128, 255, 256, 256 + 32, 256 + 97, 32768 + 97, 65535};
        for (int code : codes) {
            boolean fine = code >= 32 && code <= 126;
            Counted walk = new Counted();
            check.due("pattern of code " + code, walk.pattern((char) code), fine);
            boolean empty = Check.compile(walk) == 3;
            check.due("code " + code + " is in the pattern", empty, !fine);
        }
        taken(" ", 32);
        notTaken(" ", 31, 33);
        taken("~", 126);
        notTaken("~", 125, 127);
    }

    private static void rows() {
        check.sentence("a CHOICE is one or more ROWS with | between them");
        comes("", 3);
        comes("|", 5);
        comes("||", 7);
        comes(Check.times("|", 47), 97);
        comes(Check.times("|", 48), 99);
        comes("(?:)", 3);
        comes("(?:|)", 5);
        comes("a", 4);
        comes("a|b", 7);
        check.due("the last of 24 rows", Check.walked(Check.times("a|", 23) + "b", false, "b").matched(), true);
    }

    private static void repeats() {
        check.sentence("a row is any number of REPEATS, also none");
        for (int count : new int[] {0, 1, 2, 47, 48}) {
            comes(Check.times("a", count), 3 + count);
        }
        comes("a|", 6);
        comes("|a", 6);
        comes("()", 5);
        comes("(|a)", 8);
        comes(Check.times("a*", 24), 75);
    }

    private static void countsAndLazy() {
        check.sentence("a repeat is an ATOM and perhaps a COUNT, and behind that perhaps ?");
        for (String count : COUNTS) {
            int length = count.length();
            int size = Check.compile(Check.written("a" + count));
            check.due("a" + count + " is a pattern", size > 0, true);
            comes("a" + count + "?", size);
            error(count, 0);
            error("a|" + count, 2);
            error("()(" + count, count.equals("?") ? 4 : 3);
            error("(?:" + count, 3);
            error("a" + count + "??", 2 + length);
            for (String other : COUNTS) {
                if (!other.equals("?")) {
                    error("a" + count + other, 1 + length);
                }
                error("a" + count + "?" + other, 2 + length);
            }
        }
    }

    private static void digits() {
        check.sentence("{m}, {m,}, {m,n} (m, n digits");
        for (int m = 0; m <= 9; m++) {
            comes("a{" + m + "}", 3 + m);
            comes("a{" + m + ",}", 6 + m);
            comes("a{" + m + ",9}", 3 + m + 2 * (9 - m));
            comes("a{0," + m + "}", 3 + 2 * m);
        }
        for (String no : new String[] {"/", ":", " ", "a", "-", "+", "}", ",", "{", "~", "!"}) {
            error("a{" + no, 2);
            error("a{" + no + "}", 2);
            if (!no.equals("}")) {
                error("a{0," + no, 4);
                error("a{0," + no + "}", 4);
            }
            if (!no.equals("}") && !no.equals(",")) {
                error("a{0" + no, 3);
            }
            if (!no.equals("}")) {
                error("a{0,0" + no, 5);
            }
        }
        error("a{00}", 3);
        error("a{10}", 3);
        error("a{0,00}", 5);
        error("a{0,10}", 5);
        error("a{0,0,}", 5);
        error("a{0,,}", 4);
    }

    private static void mNotAboveN() {
        check.sentence("m not above n");
        for (int m = 0; m <= 9; m++) {
            for (int n = 0; n <= 9; n++) {
                String text = "a{" + m + "," + n + "}";
                comes(text, m > n ? "error at 4" : 3 + m + 2 * (n - m));
            }
        }
    }

    private static void plainAtoms() {
        check.sentence("a character but \\ . [ ] ( ) { } * + ? |, which stands for itself");
        for (char c = 32; c <= 126; c++) {
            String atom = String.valueOf(c);
            if ("\\[(".indexOf(c) >= 0) {
                error(atom, 1);
            } else if ("]){}*+?".indexOf(c) >= 0) {
                error(atom, 0);
            } else if ("|.".indexOf(c) < 0) {
                comes(atom, 4);
                check.due("how many " + atom + " stands for", standsFor(atom), 1);
                taken(atom, c);
                notTaken(atom, c - 1, c + 1);
            }
        }
    }

    private static void period() {
        check.sentence("a period, which stands for every character");
        check.due("how many", standsFor("."), 256);
        Counted walk = Check.compiled(".");
        int taken = 0;
        for (int code = 0; code < 160; code++) {
            walk.start(false);
            walk.feed((char) code);
            taken += walk.matched() ? 1 : 0;
        }
        check.due("the codes 0 .. 159", taken, 160);
        taken(".", 0, 10, 13, 127, 128, 159, 160, 254, 255);
    }

    private static void escapes() {
        check.sentence("\\ and a character, which stands for that one");
        for (char c = 32; c <= 126; c++) {
            if (c == 'd' || c == 'w') {
                continue;
            }
            String atom = "\\" + c;
            comes(atom, 4);
            check.due("how many " + atom + " stands for", standsFor(atom), 1);
            check.due("how many [" + atom + "] stands for", standsFor("[" + atom + "]"), 1);
            taken(atom, c);
            notTaken(atom, c - 1, c + 1);
            taken("[" + atom + "]", c);
            notTaken("[" + atom + "]", c - 1, c + 1);
        }
        error("\\", 1);
        error("a\\", 2);
        error("[\\", 2);
        comes("\\\\", 4);
        error("\\\\\\", 3);
    }

    private static void escapedClasses() {
        check.sentence("\\d stands for 0 .. 9, \\w for a .. z, A .. Z, 0 .. 9 and _");
        for (String atom : new String[] {"\\d", "[\\d]"}) {
            check.due("how many " + atom, standsFor(atom), 10);
            taken(atom, '0', '1', '8', '9');
            notTaken(atom, '/', ':', 'd', '\\', 0, 255);
        }
        for (String atom : new String[] {"\\w", "[\\w]"}) {
            check.due("how many " + atom, standsFor(atom), 63);
            taken(atom, 'a', 'b', 'y', 'z', 'A', 'B', 'Y', 'Z', '0', '1', '8', '9', '_');
            notTaken(atom, '`', '{', '@', '[', '/', ':', '^', '\\', '-', ' ', 127, 0, 255);
        }
    }

    private static void oneItemOrMore() {
        check.sentence("a SET: [, perhaps ^, one or more ITEMS, ]");
        error("[]", 1);
        error("[]a]", 1);
        comes("[a]", 4);
        comes("[ab]", 4);
        error("[^]", 2);
        error("[^]a]", 2);
        comes("[^a]", 4);
        comes("[^ab]", 4);
        error("[^^a]", 2);
        comes("[" + Check.times("a", 46) + "]", 4);
        check.due("the last of 46 items", takes("[" + Check.times("a", 45) + "b]", 'b'), true);
        check.due("how many of 15 ranges", standsFor("[" + Check.times("a-b", 14) + "c-d]"), 4);
        error("[" + Check.times("a", 47), 48);
        error("[a]]", 3);
    }

    private static void itemCharacters() {
        check.sentence("An item is a character but ] [ \\ - ^");
        for (char c = 32; c <= 126; c++) {
            if ("][\\-^".indexOf(c) < 0) {
                comes("[" + c + "]", 4);
                check.due("how many [" + c + "]", standsFor("[" + c + "]"), 1);
                taken("[" + c + "]", c);
                notTaken("[" + c + "]", c - 1, c + 1);
                comes("[^" + c + "]", 4);
            }
        }
        error("[[]", 1);
        error("[a[]", 2);
        error("[-]", 1);
        error("[-a]", 1);
        error("[a-c-]", 4);
        error("[\\]", 3);
        error("[a^]", 2);
        error("[^a^]", 3);
    }

    private static void ranges() {
        check.sentence("the second one's code not below the first one's: all from the one to the other");
        for (char c = 33; c <= 126; c++) {
            char below = (char) (c - 1);
            if ("][\\-^".indexOf(c) < 0) {
                check.due("how many in " + c + " to itself", standsFor("[" + c + "-" + c + "]"), 1);
            }
            if ("][\\-^".indexOf(c) < 0 && "][\\-^".indexOf(below) < 0) {
                error("[" + c + "-" + below + "]", 3);
                check.due("how many in " + below + " to " + c, standsFor("[" + below + "-" + c + "]"), 2);
            }
        }
        check.due("from the least to the greatest", standsFor("[ -~]"), 95);
        error("[~- ]", 3);
        taken("[b-y]", 'b', 'c', 'x', 'y');
        notTaken("[b-y]", 'a', 'z', '-');
        check.due("what can't be an end may lie between", standsFor("[Z-_]"), 6);
        taken("[Z-_]", 'Z', '[', '\\', ']', '^', '_');
        notTaken("[Z-_]", 'Y', '`');
    }

    private static void rangeEnds() {
        check.sentence("two characters but ] [ \\ - ^ with - between them");
        for (char c = '!'; c <= 126; c++) {
            if ("][\\-^".indexOf(c) >= 0) {
                error("[!-" + c, 3);
                error("[!-" + c + "z]", 3);
            } else {
                check.due("how many from ! to " + c, standsFor("[!-" + c + "]"), c - '!' + 1);
            }
        }
        error("[a-\\d]", 3);
        error("[\\a-z]", 3);
        error("[\\d-z]", 3);
        error("[a-c-e]", 4);
        error("[^-a]", 2);
        error("[a-", 3);
        check.due("an escaped - is itself", standsFor("[a\\-z]"), 3);
        notTaken("[a\\-z]", 'b');
        check.due("an item, a range, an item", standsFor("[!a-c~]"), 5);
    }

    private static void inverted() {
        check.sentence("with ^ for all characters, codes 0 .. 255, that no item stands for");
        check.due("all but one", standsFor("[^b]"), 255);
        taken("[^b]", 0, 1, 'a', 'c', '^', 127, 128, 254, 255);
        notTaken("[^b]", 'b');
        check.due("all but those of patterns", standsFor("[^ -~]"), 161);
        taken("[^ -~]", 0, 31, 127, 255);
        notTaken("[^ -~]", 32, 33, 125, 126);
        check.due("what several items stand for", standsFor("[^\\d0-9a5]"), 245);
        Counted beside = Check.compiled("1[^1]1[^b]2");
        check.due("what stands beside it", Check.listing(beside),
            "MARK 0; TAKE 1; TAKE 255; TAKE 1; TAKE 255; TAKE 1; MARK 1; MATCH");
        check.due("a ^ that is escaped", standsFor("[\\^b]"), 2);
        taken("[\\^b]", '^', 'b');
    }

    private static void sixNumbers() {
        check.sentence("NUMBERS 1, 2, .. in the order of their opening brackets, at most 6");
        for (int count = 0; count <= 6; count++) {
            comes(Check.times("()", count), 3 + 2 * count);
            comes(Check.times("(", count) + Check.times(")", count), 3 + 2 * count);
        }
        error(Check.times("()", 7), 13);
        error(Check.times("(", 7) + Check.times(")", 7), 7);
        error(Check.times("()", 6) + "(?:())", 16);
        comes(Check.times("()", 6) + "(?:a)", 16);
        comes(Check.times("(?:)", 12), 3);
        comes("\\(\\(\\(\\(\\(\\([(][(]", 11);
        comes("[((((((((](a)", 7);
    }

    private static void numbersInOrder() {
        check.sentence("NUMBERS 1, 2, .. in the order of their opening brackets, at most 6");
        Counted six = Check.walked("(a)(b(?:(c)(d)))((e))", false, "abcde");
        check.due("marks of six", Check.marks(six), "0 5 0 1 1 4 2 3 3 4 4 5 4 5");
        check.due("the first number", six.instruction(1, 1), 2);
        Counted unnumbered = Check.walked("(?:a)(b)", false, "ab");
        check.due("one without number before it", Check.marks(unnumbered), "0 2 1 2");
    }

    private static void eightDeep() {
        check.sentence("groups are at most 8 deep in one another");
        for (int depth = 0; depth <= 8; depth++) {
            comes(Check.times("(?:", depth) + "a" + Check.times(")", depth), 4);
        }
        error(Check.times("(?:", 9) + "a" + Check.times(")", 9), 24);
        comes("(?:(?:" + "((((((" + "a" + Check.times(")", 8), 16);
        comes("((((((" + "(?:(?:" + "a" + Check.times(")", 8), 16);
        comes(Check.times("(?:", 8) + Check.times(")", 8) + "(?:(?:))", 3);
        comes(Check.times("(?:", 7) + "(?:)(?:a)" + Check.times(")", 7), 4);
        error(Check.times("(?:", 7) + "(?:)(?:(" + Check.times(")", 9), 28);
        check.due("what is 8 deep", Check.walked(Check.times("(?:", 8) + "a|b" + Check.times(")", 8), false, "b").matched(),
            true);
    }

    private static void firstWrongPosition() {
        check.sentence("an ERROR at the first position that no pattern has that begins as the text does up to there");
        for (int before : new int[] {0, 1, 2, 46, 47}) {
            error(Check.times("a", before) + ")", before);
        }
        for (int before : new int[] {1, 2, 45, 46}) {
            error(Check.times("a", before) + "*+", before + 1);
        }
        error("**", 0);
        error("a)b)", 1);
        error("a**(", 2);
        error("(a))(", 3);
        error("[b-a", 3);
        error("a{2,1", 4);
        error("(?=a)", 2);
        error("(??", 2);
        error("(?(", 2);
        comes("a*b+", 8);
    }

    private static void onlySomethingMissing() {
        check.sentence("the length, if only something is missing");
        String whole = "(?:[^a-b\\]]{1,2}?|(c))";
        for (int length = 1; length < whole.length(); length++) {
            error(whole.substring(0, length), length);
        }
        comes(whole, 11);
        error(Check.times("a", 46) + "(", 47);
        error(Check.times("a", 47) + "(", 48);
        error(Check.times("a", 47) + "[", 48);
        error(Check.times("a", 47) + "\\", 48);
        error(Check.times("a", 47) + "{", 48);
    }

    private static void seventhNumber() {
        check.sentence("at the bracket of a group that would be the seventh with a number (at what follows it, if that is no ?)");
        String six = Check.times("()", 6);
        error(six + "(", 13);
        error(six + "()", 13);
        error(six + "(a)", 13);
        error(six + "(*", 13);
        error(six + "((", 13);
        error(six + "(?", 14);
        error(six + "(?)", 14);
        error(six + "(?:", 15);
        error(six + "(?:(", 16);
        error(six + "(?:(a", 16);
        comes(six + "(?:)", 15);
        comes("()()()()()(?:)()", 15);
        error("()()()()()(?:)()(a", 17);
        error("((((((" + "(a", 7);
        error("a(b(c(d(e(f(g(h", 14);
    }

    private static void tooDeep() {
        check.sentence("at the bracket of a group that would .. be too deep");
        String eight = Check.times("(?:", 8);
        error(eight, 24);
        error(eight + "(", 24);
        error(eight + "(a", 24);
        error(eight + "(?", 24);
        error(eight + "(?:a)", 24);
        error(eight + "ab(?:c)", 26);
        error(eight + "((", 24);
        error("((((((" + "(?:(?:" + "(", 12);
        error("((((((" + "(?:(?:" + "(?:", 12);
        error("((((((" + "(?:" + "(a", 10);
        error(eight + "a" + Check.times(")", 9), 33);
    }

    private static final String LONG = "(?:a{9}){9}(?:b{9}){8}";

    private static void instructions() {
        check.sentence("At most 160 instructions");
        comes(LONG + "aaa", 159);
        comes(LONG + "aaaa", 160);
        comes(LONG + "aaaaa", "too many");
        Counted full = Check.compiled(LONG + "aaaa");
        check.due("the last one", full.instruction(159, 0), 4);
        full.start(false);
        Check.feed(full, Check.times("a", 81) + Check.times("b", 72) + "aaaa");
        check.due("all of them are gone through", full.matched(), true);
    }

    private static void instructionsBySort() {
        check.sentence("At most 160 instructions");
        String[] fits = {"aaa+", "aa*", "aaa?", "a{4}", "a{1,}", "a{0,2}", "(aa)", "a|a", "(a)a", "(?:aaaa)", "[ab]aaa",
            "(?:|)aa", "(?:||)", "(?:)*aa", "()()", "()aa", "aa(?:)+a", "(?:)?aaa"};
        for (String rest : fits) {
            comes(LONG + rest, 160);
            comes(LONG + "a" + rest, "too many");
        }
    }

    private static void hugePrograms() {
        check.sentence("At most 160 instructions");
        String huge = "(?:(?:((((((a{9}){9}){9}){9}){9}){9}){9}){9}){9}";
        check.due("its length", huge.length(), 48);
        comes(huge, "too many");
        comes(huge.substring(0, 47), "error at 47");
        comes(huge.substring(0, 46) + "0}", 3);
        comes("(?:(?:(?:(?:(?:(?:){9}){9}){9}){9}){9}){9}", 3);
        comes("(?:(?:a{9}){9}){1}", 84);
        comes("(?:(?:a{9}){9}){2}", "too many");
        comes("(?:(?:a{9}){9}){0}", 3);
        comes("(?:(?:a{9}){9}){0,1}", 85);
        comes("(?:(?:a{9}){9}){0,2}", "too many");
        comes("(?:(?:a{9}){9}){0,}", 86);
        comes("(?:(?:a{9}){9}){1,}", "too many");
    }
}
