/** The boundaries in what the document's terms say of programs, ways, words and what is live, sentence by sentence. */
public final class WordEdgeTests {
    private static final Check check = new Check("WordEdgeTests");

    public static void main(String[] args) {
        lastRowAlone();
        starPlusAndQuestion();
        timesNoneAndMore();
        ownSplitsExchanged();
        theWhole();
        xBeforeY();
        whereAWayCameBefore();
        longestOfSteps();
        loopsOfNothing();
        markSetAgain();
        marksAtFirst();
        wholeAtItsEnd();
        wholeFromTheBeginning();
        firstWayOfTheWhole();
        searchFromAnyStart();
        searchAnywhere();
        leastStart();
        liveInTheWhole();
        liveWithoutMatch();
        liveByStart();
        liveByOrder();
        check.end();
    }

    private static void program(String pattern, String inside) {
        String want = inside.isEmpty() ? "MARK 0; MARK 1; MATCH" : "MARK 0; " + inside + "; MARK 1; MATCH";
        check.due("program of " + pattern, Check.listing(Check.compiled(pattern)), want);
    }

    private static String where(String pattern, boolean search, String word) {
        return pattern + (search ? " searched in " : " with the whole ") + word;
    }

    private static void marks(String pattern, boolean search, String word, String want) {
        Counted walk = Check.walked(pattern, search, word);
        check.due("matched of " + where(pattern, search, word), walk.matched(), !want.equals("-1"));
        check.due("marks of " + where(pattern, search, word), Check.marks(walk), want);
    }

    private static void live(String pattern, boolean search, String word, String want) {
        Counted walk = Check.walked(pattern, search, word);
        check.due("live ones of " + where(pattern, search, word), Check.liveOnes(walk), want);
        check.due("live of " + where(pattern, search, word), walk.live(), want.isEmpty() ? 0 : want.split(" ").length);
    }

    private static void lastRowAlone() {
        check.sentence("SPLIT to the next one and behind the JUMP; a; JUMP to the end of the choice (the last row stands alone)");
        program("a", "TAKE 1");
        program("a|.", "SPLIT 2 4; TAKE 1; JUMP 5; TAKE 256");
        program("a|.|\\d", "SPLIT 2 4; TAKE 1; JUMP 8; SPLIT 5 7; TAKE 256; JUMP 8; TAKE 10");
        program("|", "SPLIT 2 3; JUMP 3");
        program("||", "SPLIT 2 3; JUMP 5; SPLIT 4 5; JUMP 5");
        program("(?:a|)b", "SPLIT 2 4; TAKE 1; JUMP 4; TAKE 1");
    }

    private static void starPlusAndQuestion() {
        check.sentence("a*: SPLIT to the next one and the end; a; JUMP to the SPLIT. a+: a; SPLIT .. a?: SPLIT .. ; a");
        program("a*", "SPLIT 2 4; TAKE 1; JUMP 1");
        program("a+", "TAKE 1; SPLIT 1 3");
        program("a?", "SPLIT 2 3; TAKE 1");
        program("(?:)*", "SPLIT 2 3; JUMP 1");
        program("(?:)+", "SPLIT 1 2");
        program("(?:)?", "SPLIT 2 2");
        program("(?:a|b)+", "SPLIT 2 4; TAKE 1; JUMP 5; TAKE 1; SPLIT 1 6");
    }

    private static void timesNoneAndMore() {
        check.sentence("a{m}: a, m times. a{m,}: a, m times, then a*. a{m,n}: .. then n - m times: SPLIT .. the end of all, a");
        program("a{0}", "");
        program("a{1}", "TAKE 1");
        program("a{2}", "TAKE 1; TAKE 1");
        program("a{9}", "TAKE 1" + Check.times("; TAKE 1", 8));
        program("a{0,}", "SPLIT 2 4; TAKE 1; JUMP 1");
        program("a{1,}", "TAKE 1; SPLIT 3 5; TAKE 1; JUMP 2");
        program("a{0,0}", "");
        program("a{1,1}", "TAKE 1");
        program("a{0,1}", "SPLIT 2 3; TAKE 1");
        program("a{1,2}", "TAKE 1; SPLIT 3 4; TAKE 1");
        program("a{1,3}b", "TAKE 1; SPLIT 3 6; TAKE 1; SPLIT 5 6; TAKE 1; TAKE 1");
        program("(a){2}", "MARK 2; TAKE 1; MARK 3; MARK 2; TAKE 1; MARK 3");
        program("(a){0}b", "TAKE 1");
    }

    private static void ownSplitsExchanged() {
        check.sentence("In lazy repeats the x and y of their own SPLITs are exchanged");
        program("a*?", "SPLIT 4 2; TAKE 1; JUMP 1");
        program("a+?", "TAKE 1; SPLIT 3 1");
        program("a??", "SPLIT 3 2; TAKE 1");
        program("a{1}?", "TAKE 1");
        program("a{1,}?", "TAKE 1; SPLIT 5 3; TAKE 1; JUMP 2");
        program("a{0,2}?", "SPLIT 5 2; TAKE 1; SPLIT 5 4; TAKE 1");
        program("(?:a?)??", "SPLIT 4 2; SPLIT 3 4; TAKE 1");
        program("(?:a??)?", "SPLIT 2 4; SPLIT 4 3; TAKE 1");
        program("(?:a|b)??", "SPLIT 6 2; SPLIT 3 5; TAKE 1; JUMP 6; TAKE 1");
    }

    private static void theWhole() {
        check.sentence("The whole: MARK 0, the choice, MARK 1, MATCH");
        program("", "");
        program("a", "TAKE 1");
        program("()", "MARK 2; MARK 3");
        program("()()()()()()", "MARK 2; MARK 3; MARK 4; MARK 5; MARK 6; MARK 7; MARK 8; MARK 9; MARK 10; MARK 11; "
            + "MARK 12; MARK 13");
    }

    private static void xBeforeY() {
        check.sentence("from SPLIT to x, and ways to y come behind all ways to x");
        marks("(a?)(a?)", false, "a", "0 1 0 1 1 1");
        marks("(a??)(a?)", false, "a", "0 1 0 0 0 1");
        marks("(a)|(a)", false, "a", "0 1 0 1");
        marks("(|a)(|a)", false, "a", "0 1 0 0 0 1");
        marks("(|a)(|a)", false, "aa", "0 2 0 1 1 2");
        marks("(a{0,9})(a*)", false, Check.times("a", 9), "0 9 0 9 9 9");
        marks("(a{0,9})(a*)", false, Check.times("a", 10), "0 10 0 9 9 10");
    }

    private static void whereAWayCameBefore() {
        check.sentence("a way that comes to an instruction at a place of the word where a way before it came to it ends there");
        live("(?:a|a)*", false, "", "3 5");
        live("(?:a|a)*", false, "a", "3 5");
        live("(?:a|a)*", false, Check.times("a", 200), "3 5");
        marks("(?:(a)|(a))*", false, Check.times("a", 200), "0 200 199 200");
        live("(?:a*)*", false, "aa", "3");
        live("(?:aa|a)*b", false, "aa", "3 4 6 8");
        marks("(?:aa|(a))*", false, "aaa", "0 3 2 3");
        live("(?:a?){9}", false, "aaaa", "10 12 14 16 18");
    }

    private static void longestOfSteps() {
        check.sentence("A WAY goes over the program .. from MARK, JUMP on; .. from SPLIT to x, and ways to y come behind");
        String markers = "(?:(){9}){8}()()()()()|a";
        check.due("instructions", Check.outcome(markers), "160");
        marks(markers, false, "", "0 0 0 0 0 0 0 0 0 0 0 0 0 0");
        marks(markers, false, "a", "0 1");
        check.due("live behind all MARKs", Check.walked(markers, false, "").isLive(157), true);
        String splits = "(?:(?:(?:){0,9}){0,9}){1}(?:(?:){0,9}){0,6}|a";
        check.due("instructions of SPLITs", Check.outcome(splits), "156");
        marks(splits, false, "", "0 0");
        marks(splits, false, "a", "0 1");
        marks("a" + splits, false, "a", "0 1");
        check.due("live behind all SPLITs", Check.walked(splits, false, "").isLive(153), true);
        check.due("live behind all lazy SPLITs", Check.walked("(?:a{0,9}?){0,7}?|a", false, "").live(), 8);
    }

    private static void loopsOfNothing() {
        check.sentence("a way that comes to an instruction at a place of the word where a way before it came to it ends there");
        marks("(?:)*", false, "", "0 0");
        marks("(?:)+?", false, "", "0 0");
        marks("(?:)*", false, "a", "-1");
        marks("()*", false, "", "0 0");
        marks("()+", false, "", "0 0 0 0");
        marks("()*?", false, "", "0 0");
        marks("(a*)*", false, "", "0 0");
        marks("(a*)*", false, "a", "0 1 0 1");
        marks("(a*)+", false, "", "0 0 0 0");
        marks("(a|)*", false, "a", "0 1 0 1");
        marks("(|a)*", false, "a", "0 1 0 1");
        marks("(?:(?:(?:(?:(?:a*)*)*)*)*)*", false, Check.times("a", 200), "0 200");
        marks("(?:(?:)*)*", true, "a", "0 0");
    }

    private static void markSetAgain() {
        check.sentence("MARK k sets mark k to the place (in place of what was there)");
        marks("(a)*", false, "a", "0 1 0 1");
        marks("(a)*", false, "aa", "0 2 1 2");
        marks("(a)*", false, Check.times("a", 199), "0 199 198 199");
        marks("(a)*", false, Check.times("a", 200), "0 200 199 200");
        marks("(a){2}", false, "aa", "0 2 1 2");
        marks("(?:(a)|b)*", false, "ab", "0 2 0 1");
        marks("(?:(a)|b)*", false, "aba", "0 3 2 3");
        marks("(a(b)?)*", false, "aba", "0 3 2 3 1 2");
    }

    private static void marksAtFirst() {
        check.sentence("at first all are not set");
        marks("(a)*", false, "", "0 0");
        marks("(a)?b", false, "b", "0 1");
        marks("(a)|(b)|(c)", false, "c", "0 1 -1 -1 -1 -1 0 1");
        marks("(a)*b", true, "aab", "0 3 1 2");
        marks("(a)*b", true, "axb", "2 3");
        Counted walk = Check.walked("(a)*", false, "aa");
        walk.start(false);
        check.due("a word begun anew", Check.marks(walk), "0 0");
    }

    private static void wholeAtItsEnd() {
        check.sentence("Whole: it is matched if a way from 0 comes to MATCH at its end");
        marks("ab", false, "a", "-1");
        marks("ab", false, "ab", "0 2");
        marks("ab", false, "abb", "-1");
        marks("", false, "", "0 0");
        marks("", false, "a", "-1");
        marks("a*", false, Check.times("a", 200), "0 200");
        marks("a*", false, Check.times("a", 199) + "b", "-1");
        Counted walk = Check.compiled("a|abb");
        walk.start(false);
        StringBuilder matched = new StringBuilder();
        for (char c : "abbb".toCharArray()) {
            matched.append(walk.matched() ? 1 : 0);
            walk.feed(c);
        }
        check.due("a|abb along abbb", matched.append(walk.matched() ? 1 : 0), "01010");
    }

    private static void wholeFromTheBeginning() {
        check.sentence("The word is looked at from its beginning alone (WHOLE)");
        marks("a", false, "ba", "-1");
        marks("a", false, "aa", "-1");
        marks("", false, "b", "-1");
        live("a", false, "b", "");
        live("a*", false, "b", "");
    }

    private static void firstWayOfTheWhole() {
        check.sentence("the marks are those of the first such way");
        marks("(a)|a", false, "a", "0 1 0 1");
        marks("a|(a)", false, "a", "0 1");
        marks("(a|ab)(b?)", false, "ab", "0 2 0 1 1 2");
        marks("(ab|a)(b?)", false, "ab", "0 2 0 2 2 2");
        marks("(ab|a)(b)", false, "ab", "0 2 0 1 1 2");
        marks("(a*?)(a*)(a*?)", false, "aa", "0 2 0 0 0 2 2 2");
    }

    private static void searchFromAnyStart() {
        check.sentence("or from any start (SEARCH)");
        for (int start : new int[] {0, 1, 2, 198, 199}) {
            marks("(b)", true, Check.times("a", start) + "b", start + " " + (start + 1) + " " + start + " " + (start + 1));
        }
        marks("b", true, Check.times("a", 200), "-1");
        marks("b", true, "", "-1");
        marks("", true, "", "0 0");
        live("b", true, Check.times("a", 200), "1");
    }

    private static void searchAnywhere() {
        check.sentence("Search: it is matched if a way from any start comes to MATCH anywhere");
        marks("ab", true, "xa", "-1");
        marks("ab", true, "xab", "1 3");
        marks("ab", true, "xabx", "1 3");
        marks("ab", true, "ab" + Check.times("x", 198), "0 2");
        marks("", true, "x", "0 0");
        marks("ab", true, "axb", "-1");
        marks("aab", true, "aaab", "1 4");
    }

    private static void leastStart() {
        check.sentence("the marks are those of the first way from the least such start");
        marks("a", true, "aa", "0 1");
        marks("(b)|(abc)", true, "ab", "1 2 1 2");
        marks("(b)|(abc)", true, "abc", "0 3 -1 -1 0 3");
        marks("(b)|(abc)", true, "abd", "1 2 1 2");
        marks("a+", true, "baaab", "1 4");
        marks("a+?", true, "baaab", "1 2");
        marks("a*", true, "ba", "0 0");
        marks("a??", true, "a", "0 0");
        marks("(a)|(ab)", true, "ab", "0 1 0 1");
        marks("(ab)|(a)", true, "a", "0 1 -1 -1 0 1");
        marks("(ab)|(a)", true, "ab", "0 2 0 2");
    }

    private static void liveInTheWhole() {
        check.sentence("LIVE are the TAKEs to which a way comes at the end of the word");
        live("", false, "", "");
        live("a", false, "", "1");
        live("a", false, "a", "");
        live("a", false, "b", "");
        live("ab", false, "a", "2");
        live("abc|a|abd", false, "", "2 7 9");
        live("abc|a|abd", false, "a", "3 10");
        live("abc|a|abd", false, "ab", "4 11");
        live("a*?", false, "", "2");
        live("a{1,2}", false, "a", "3");
        live("a{1,2}", false, "aa", "");
        live("(?:a|b)?c", false, "", "3 5 6");
    }

    private static void liveWithoutMatch() {
        check.sentence("LIVE are the TAKEs to which a way comes at the end of the word; in SEARCH ..");
        live("ab", true, "", "1");
        live("ab", true, "a", "1 2");
        live("ab", true, "aa", "1 2");
        live("ab", true, "ax", "1");
        live("aaa", true, "aa", "1 2 3");
        live("aaa", true, "aaa", "");
        live("ab", true, Check.times("x", 199) + "a", "1 2");
    }

    private static void liveByStart() {
        check.sentence("in SEARCH only ways from starts not behind that of the match, if there is one");
        live("b|abcd", true, "", "2 4");
        live("b|abcd", true, "a", "2 4 5");
        live("b|abcd", true, "ab", "6");
        live("b|abcd", true, "abc", "7");
        live("b|abcd", true, "abx", "");
        live("b|abcd", true, "aba", "");
        live("aab|b", true, "aab", "");
        live("bc?|abcd", true, "ab", "4 8");
        live("a|b", true, "a", "");
    }

    private static void liveByOrder() {
        check.sentence("and only those before the way whose marks these are");
        live("abc|a|abd", true, "a", "3");
        live("abc|a|abd", true, "ab", "4");
        live("abc|a|abd", true, "abx", "");
        live("a|ab", true, "a", "");
        live("ab|a", true, "a", "3");
        live("a*", true, "", "2");
        live("a*?", true, "", "");
        live("a+", true, "ba", "1");
        live("a+?", true, "ba", "");
        live("a+", true, "bab", "");
        live("", true, "", "");
        live("|a", true, "", "");
        live("a|", true, "", "2");
    }
}
