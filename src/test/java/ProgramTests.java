/** The programs of patterns, instruction by instruction, and what their TAKEs stand for. */
public final class ProgramTests {
    private static final Check check = new Check("ProgramTests");

    public static void main(String[] args) {
        atoms();
        choices();
        counts();
        lazy();
        groups();
        limit();
        check.end();
    }

    /** What stands between MARK 0 and MARK 1; behind that the frame is looked at too. */
    private static void inside(String pattern, String want) {
        String all = Check.listing(Check.compiled(pattern));
        String middle = want.isEmpty() ? "" : want + "; ";
        check.due("program of " + pattern, all, "MARK 0; " + middle + "MARK 1; MATCH");
    }

    private static void stands(String atom, String characters, int count) {
        Counted walk = Check.compiled(atom);
        check.due("count of " + atom, walk.instruction(1, 1), count);
        StringBuilder got = new StringBuilder();
        for (char c = 32; c < 127; c++) {
            walk.start(false);
            walk.feed(c);
            got.append(walk.matched() ? String.valueOf(c) : "");
        }
        check.due("characters of " + atom, got, characters);
    }

    private static String range(char from, char to) {
        StringBuilder all = new StringBuilder();
        for (char c = from; c <= to; c++) {
            all.append(c);
        }
        return all.toString();
    }

    private static void atoms() {
        inside("", "");
        inside("ab", "TAKE 1; TAKE 1");
        String all = range(' ', '~');
        String letters = range('0', '9') + range('A', 'Z') + "_" + range('a', 'z');
        stands("a", "a", 1);
        stands(" ", " ", 1);
        stands("~", "~", 1);
        stands("^", "^", 1);
        stands("-", "-", 1);
        stands(".", all, 256);
        stands("\\.", ".", 1);
        stands("\\\\", "\\", 1);
        stands("\\n", "n", 1);
        stands("\\D", "D", 1);
        stands("\\d", "0123456789", 10);
        stands("\\w", letters, 63);
        stands("[abca]", "abc", 3);
        stands("[.]", ".", 1);
        stands("[^a]", all.replace("a", ""), 255);
        stands("[^ -~]", "", 161);
        stands("[ -~]", all, 95);
        stands("[c-ea-b]", "abcde", 5);
        stands("[a-a]", "a", 1);
        stands("[\\d\\]x]", "0123456789]x", 12);
        stands("[\\w]", letters, 63);
        stands("[^\\w]", all.replaceAll("\\w", ""), 193);
        stands("[\\^\\-]", "-^", 2);
        Counted rest = Check.compiled("[^a-z]{3}");
        rest.start(false);
        Check.feed(rest, "" + (char) 0 + (char) 255 + (char) 128);
        check.due("codes outside the pattern's own", rest.matched(), true);
        Counted every = Check.walked("...", false, "" + (char) 0 + (char) 127 + (char) 255);
        check.due("a period stands for every one", every.matched(), true);
    }

    private static void choices() {
        inside("a|b", "SPLIT 2 4; TAKE 1; JUMP 5; TAKE 1");
        inside("a|b|c", "SPLIT 2 4; TAKE 1; JUMP 8; SPLIT 5 7; TAKE 1; JUMP 8; TAKE 1");
        inside("|", "SPLIT 2 3; JUMP 3");
        inside("ab|", "SPLIT 2 5; TAKE 1; TAKE 1; JUMP 5");
        inside("||a", "SPLIT 2 3; JUMP 6; SPLIT 4 5; JUMP 6; TAKE 1");
    }

    private static void counts() {
        inside("a*", "SPLIT 2 4; TAKE 1; JUMP 1");
        inside("a+", "TAKE 1; SPLIT 1 3");
        inside("a?", "SPLIT 2 3; TAKE 1");
        inside("a{0}", "");
        inside("a{1}", "TAKE 1");
        inside("a{3}", "TAKE 1; TAKE 1; TAKE 1");
        inside("a{0,}", "SPLIT 2 4; TAKE 1; JUMP 1");
        inside("a{1,}", "TAKE 1; SPLIT 3 5; TAKE 1; JUMP 2");
        inside("a{2,}", "TAKE 1; TAKE 1; SPLIT 4 6; TAKE 1; JUMP 3");
        inside("a{0,0}", "");
        inside("a{0,1}", "SPLIT 2 3; TAKE 1");
        inside("a{0,2}", "SPLIT 2 5; TAKE 1; SPLIT 4 5; TAKE 1");
        inside("a{1,3}b", "TAKE 1; SPLIT 3 6; TAKE 1; SPLIT 5 6; TAKE 1; TAKE 1");
        inside("a{2,2}", "TAKE 1; TAKE 1");
        inside("(?:)*", "SPLIT 2 3; JUMP 1");
        inside("(?:)+", "SPLIT 1 2");
        inside("(?:)?", "SPLIT 2 2");
        inside("(?:){9}", "");
    }

    private static void lazy() {
        inside("a*?", "SPLIT 4 2; TAKE 1; JUMP 1");
        inside("a+?", "TAKE 1; SPLIT 3 1");
        inside("a??", "SPLIT 3 2; TAKE 1");
        inside("a{2}?", "TAKE 1; TAKE 1");
        inside("a{1,}?", "TAKE 1; SPLIT 5 3; TAKE 1; JUMP 2");
        inside("a{0,2}?", "SPLIT 5 2; TAKE 1; SPLIT 5 4; TAKE 1");
        inside("(?:a*)*?", "SPLIT 6 2; SPLIT 3 5; TAKE 1; JUMP 2; JUMP 1");
        inside("(?:a|b)??", "SPLIT 6 2; SPLIT 3 5; TAKE 1; JUMP 6; TAKE 1");
    }

    private static void groups() {
        inside("()", "MARK 2; MARK 3");
        inside("(a(?:b)(c))", "MARK 2; TAKE 1; TAKE 1; MARK 4; TAKE 1; MARK 5; MARK 3");
        inside("(a){2}", "MARK 2; TAKE 1; MARK 3; MARK 2; TAKE 1; MARK 3");
        inside("(a)*", "SPLIT 2 6; MARK 2; TAKE 1; MARK 3; JUMP 1");
        inside("(a)+", "MARK 2; TAKE 1; MARK 3; SPLIT 1 5");
        inside("((a)|(b))", "MARK 2; SPLIT 3 7; MARK 4; TAKE 1; MARK 5; JUMP 10; MARK 6; TAKE 1; MARK 7; MARK 3");
        inside("(a){0}(b)", "MARK 4; TAKE 1; MARK 5");
        inside(Check.times("(?:", 8) + "a|b" + Check.times(")", 8), "SPLIT 2 4; TAKE 1; JUMP 5; TAKE 1");
        inside("(?:(?:((((((a*?)?)))))))", "MARK 2; MARK 4; MARK 6; MARK 8; MARK 10; SPLIT 7 12; MARK 12; "
            + "SPLIT 11 9; TAKE 1; JUMP 8; MARK 13; MARK 11; MARK 9; MARK 7; MARK 5; MARK 3");
        check.due("a group that is never written", Check.compiled("(a){0}").groups(), 1);
    }

    private static void size(String pattern, int want) {
        check.due("size of " + pattern, Check.compile(Check.written(pattern)), want);
    }

    private static void limit() {
        int tooMany = Check.WRONG_STATE;
        size("(?:a{9}){9}(?:b{9}){8}aaa", 159);
        size("(?:a{9}){9}(?:b{9}){8}aaaa", 160);
        size("(?:a{9}){9}(?:b{9}){8}aaaaa", tooMany);
        size("(?:a{9}){9}(?:b{9}){8}aa+", 159);
        size("(?:a{9}){9}(?:b{9}){8}aaa+", 160);
        size("(?:a{9}){9}(?:b{9}){8}aaaa+", tooMany);
        size("(?:a{9}){9}(?:b{9}){8}aa*", 160);
        size("(?:a{9}){9}(?:b{9}){8}aaa*", tooMany);
        size("(?:a{9}){9}(?:b{9}){8}(aa)", 160);
        size("(?:a{9}){9}(?:b{9}){8}(aaa)", tooMany);
        size("(?:a{9}){9}(?:b{9}){8}a|a", 160);
        size("(?:a{9}){9}(?:b{9}){8}a|aa", tooMany);
        size("(?:a{8,9}){9}(?:b{9}){6}aaaaa?", 153);
        size("(?:(?:(?:a{9}){9}){9}){9}", tooMany);
        size("(?:(?:(?:(?:(?:(?:a{9}){9}){9}){9}){9}){9}", Check.NO_PATTERN);
        size("(?:(?:(?:(?:(?:a{9}){9}){9}){9}){9}){9}", tooMany);
        size("(?:(?:(?:(?:(?:a{9}){9}){9}){9}){9}){0}", 3);
        size("(?:(?:(?:(?:a{9}){9}){9}){9}){0}b", 4);
        size("(?:(?:(?:(?:(?:(?:){9}){9}){9}){9}){9}){9}", 3);
        size("(?:(?:(?:){0,9}){9}){1}", 84);
        size("(?:(?:(?:){0,9}){0,9})", 93);
        check.due("all nine", Check.walked("(?:a{9}){9}(?:b{9}){8}aaaa", false,
            Check.times("a", 81) + Check.times("b", 72) + "aaaa").matched(), true);
    }
}
