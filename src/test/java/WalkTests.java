/** Matches, their marks, and the TAKEs that are live, character by character. */
public final class WalkTests {
    private static final Check check = new Check("WalkTests");

    public static void main(String[] args) {
        wholeMatches();
        searchedMatches();
        emptyLoops();
        wholeLive();
        searchedLive();
        laterMatchTakesOver();
        longWords();
        check.end();
    }

    private static void marks(String pattern, boolean search, String word, String want) {
        Counted walk = Check.walked(pattern, search, word);
        String where = pattern + (search ? " searched in " : " with the whole ") + word;
        check.due("marks of " + where, Check.marks(walk), want);
        check.due("matched of " + where, walk.matched(), !want.equals("-1"));
    }

    private static void live(String pattern, boolean search, String word, String want) {
        Counted walk = Check.walked(pattern, search, word);
        String where = pattern + (search ? " searched in " : " with the whole ") + word;
        check.due("live ones of " + where, Check.liveOnes(walk), want);
        check.due("live of " + where, walk.live(), want.isEmpty() ? 0 : want.split(" ").length);
    }

    private static void wholeMatches() {
        marks("(a*)(a*)", false, "aa", "0 2 0 2 2 2");
        marks("(a*?)(a*)", false, "aa", "0 2 0 0 0 2");
        marks("(a|ab)(c|bcd)?", false, "abcd", "0 4 0 1 1 4");
        marks("(a|ab)(c|bcd)?", false, "ab", "0 2 0 2");
        marks("(a|ab)(c|bcd)?", false, "abc", "0 3 0 2 2 3");
        marks("(?:(a)|(b))*", false, "ab", "0 2 0 1 1 2");
        marks("(?:(a)|(b))*", false, "aba", "0 3 2 3 1 2");
        marks("(a){2}", false, "aa", "0 2 1 2");
        marks("(a){1,3}?(a*)", false, "aaa", "0 3 0 1 1 3");
        marks("(a)?b", false, "b", "0 1");
        marks("a|(a)", false, "a", "0 1");
        marks("(a)|a", false, "a", "0 1 0 1");
        marks("a", false, "ba", "-1");
        marks("a", false, "ab", "-1");
        marks("", false, "", "0 0");
    }

    private static void searchedMatches() {
        marks("a", true, "xxaxa", "2 3");
        marks("a+", true, "xaaax", "1 4");
        marks("a+?", true, "xaaax", "1 2");
        marks("a*", true, "xaa", "0 0");
        marks("a*?", true, "aa", "0 0");
        marks("(a|ab)(c|bcd)?", true, "xabcdx", "1 5 1 2 2 5");
        marks("(?:a|ab)c?", true, "abc", "0 1");
        marks("(b)|(abc)", true, "abc", "0 3 -1 -1 0 3");
        marks("(b)|(abc)", true, "abx", "1 2 1 2");
        marks("a", true, "xyz", "-1");
    }

    private static void emptyLoops() {
        marks("(?:)*", false, "", "0 0");
        marks("(?:)*?", false, "", "0 0");
        marks("(?:)+", false, "", "0 0");
        marks("(a*)*", false, "", "0 0");
        marks("(a*)*", false, "aa", "0 2 0 2");
        marks("(a*)+", false, "", "0 0 0 0");
        marks("(a*)+", false, "aa", "0 2 0 2");
        marks("(a*?)*?", false, "aa", "0 2 0 2");
        marks("()(()|a)+", false, "a", "0 1 0 0 0 1");
        marks("(?:(?:)*)*", true, "x", "0 0");
        marks("(|a)*", false, "a", "0 1 0 1");
        marks("(|a)+", false, "aa", "0 2 1 2");
    }

    private static void wholeLive() {
        live("", false, "", "");
        live("a|b|c", false, "", "2 5 7");
        live("a*", false, "a", "2");
        live("a|ab", false, "a", "5");
        live("a{2,3}", false, "aa", "4");
        live("a{2,3}", false, "aaa", "");
        live("a*?b*?", false, "", "2 5");
        live("a", false, "b", "");
    }

    private static void searchedLive() {
        live("ab", true, "", "1");
        live("ab", true, "a", "1 2");
        live("ab", true, "ax", "1");
        live("ab", true, "ab", "");
        live("a|ab", true, "a", "");
        live("ab|a", true, "a", "3");
        live("a*", true, "", "2");
        live("a*", true, "a", "2");
        live("a*", true, "ab", "");
        live("a*?", true, "", "");
        live("a+?", true, "a", "");
        live("", true, "abc", "");
    }

    private static void laterMatchTakesOver() {
        Counted walk = Check.compiled("b|abcd|abc");
        walk.start(true);
        Check.feed(walk, "ab");
        check.due("the later start is all there is yet", Check.marks(walk), "1 2");
        check.due("the earlier start lives on", walk.live(), 2);
        walk.feed('c');
        check.due("the earlier start has found one", Check.marks(walk), "0 3");
        check.due("a way before it lives on", walk.live(), 1);
        walk.feed('d');
        check.due("and finds one too", Check.marks(walk), "0 4");
        check.due("nothing is left", walk.live(), 0);
        walk.feed('b');
        check.due("and nothing changes any more", Check.marks(walk) + " " + walk.live(), "0 4 0");
        walk.start(true);
        Check.feed(walk, "abxabcd");
        check.due("what the earlier start lost stays lost", Check.marks(walk), "1 2");
    }

    private static void longWords() {
        Counted walk = Check.walked("(a|b)*c", true, Check.times("ab", 99) + "a");
        check.due("not yet", walk.matched() + " " + walk.live(), "false 3");
        walk.feed('c');
        check.due("200 characters", Check.marks(walk), "0 200 198 199");
        check.due("no more", walk.feed('c'), false);
        Counted wide = Check.walked("(?:a{0,9}){0,7}", false, Check.times("a", 63));
        check.due("as much as there can be", Check.marks(wide) + " " + wide.live(), "0 63 0");
        wide.feed('a');
        check.due("one more", wide.matched(), false);
    }
}
