/** Where texts that are no patterns have their error, and texts that look wrong and are none. */
public final class ErrorTests {
    private static final Check check = new Check("ErrorTests");

    public static void main(String[] args) {
        atoms();
        counts();
        sets();
        groups();
        limits();
        patterns();
        check.end();
    }

    private static void error(String text, int at) {
        Counted walk = Check.written(text);
        check.due("compile of " + text, Check.compile(walk), Check.NO_PATTERN);
        check.due("position of " + text, walk.position(), at);
        check.due("by the model, of " + text, Model.error(text), at);
    }

    private static void fine(String text) {
        Counted walk = Check.written(text);
        check.due("compile of " + text, Check.compile(walk) > 0, true);
        check.due("position of " + text, walk.position(), -1);
        check.due("by the model, of " + text, Model.error(text), -1);
    }

    private static void atoms() {
        for (String one : "* + ? { } ] )".split(" ")) {
            error(one, 0);
            error("a|" + one, 2);
        }
        error("ab}", 2);
        error("ab]", 2);
        error("a)b", 1);
        error("\\", 1);
        error("ab\\", 3);
        error("(a\\", 3);
        error("(*)", 1);
        error("(a|+)", 3);
    }

    private static void counts() {
        error("a**", 2);
        error("a+*", 2);
        error("a???", 3);
        error("a*?+", 3);
        error("a*??", 3);
        error("a{2}{2}", 4);
        error("a{2}??", 5);
        error("a{", 2);
        error("a{}", 2);
        error("a{,2}", 2);
        error("a{x}", 2);
        error("a{2", 3);
        error("a{2x", 3);
        error("a{12}", 3);
        error("a{2,", 4);
        error("a{2,x}", 4);
        error("a{2,1}", 4);
        error("a{9,8}", 4);
        error("a{2,3", 5);
        error("a{2,34}", 5);
        error("a{2,,", 4);
        error("a{ 2}", 2);
    }

    private static void sets() {
        error("[", 1);
        error("[]", 1);
        error("[^", 2);
        error("[^]", 2);
        error("[^^]", 2);
        error("[a", 2);
        error("[a^]", 2);
        error("[a[", 2);
        error("[-a]", 1);
        error("[a-", 3);
        error("[a-]", 3);
        error("[a--]", 3);
        error("[a-\\z]", 3);
        error("[a-^]", 3);
        error("[a-[]", 3);
        error("[b-a]", 3);
        error("[a-c-e]", 4);
        error("[\\d-z]", 3);
        error("[\\a-z]", 3);
        error("[\\", 2);
        error("[\\]", 3);
        error("[a]]", 3);
    }

    private static void groups() {
        error("(", 1);
        error("(a", 2);
        error("(?", 2);
        error("(?a)", 2);
        error("(??:a)", 2);
        error("(?)", 2);
        error("(?:", 3);
        error("(?:a", 4);
        error("(?:?", 3);
        error("(a))", 3);
        error("(a|", 3);
        error("((a)", 4);
    }

    private static void limits() {
        String six = "()()()()()()";
        error(six + "()", 13);
        error(six + "(", 13);
        error(six + "(a", 13);
        error(six + "(?", 14);
        error(six + "(?)", 14);
        error(six + "(?:", 15);
        fine(six + "(?:a)");
        error("((((((a", 7);
        error("(((((((a)))))))", 7);
        String eight = Check.times("(?:", 8);
        fine(eight + "a" + Check.times(")", 8));
        error(eight + "(", 24);
        error(eight + "(?:a)" + Check.times(")", 8), 24);
        error(eight + "((((", 24);
        fine(eight + Check.times(")", 8) + "(?:a)");
        fine("(?:(?:((((((a))))))))");
        error("((((((" + "(?:(?:" + "(a)", 12);
        error("((((((" + "(?:(?:" + "(?:a)", 12);
        error("((((((" + "(?:" + "(a)", 10);
        error(Check.times("a", 47) + "(", 48);
        error(Check.times("a", 47) + "\\", 48);
        error(Check.times("a", 46) + "**", 47);
    }

    private static void patterns() {
        for (String text : new String[] {"", "|", "||", "()", "(?:)", "(|)", "a||b", "()*", "(?:)+?", "a??", "a*?",
            "a{0}", "a{0,0}", "a{9,9}?", "a{3,}?", "-", "^", "$", ",", ":", "a^b$", "\\\\", "\\]", "\\?", "[ ]",
            "[a-a]", "[ -~]", "[(]", "[.*+?{}()|]", "[\\]\\[\\-\\^\\\\]", "[a-cx-z]", "[^\\w\\d]", "[!-,.-/]", "!-~",
            "(a)(?:b)(c|d)", "a{1,2}b{0,}c?"}) {
            fine(text);
        }
    }
}
