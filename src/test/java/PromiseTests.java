/** The document's promises one by one: ordinary inputs, edges and wrong inputs. */
public final class PromiseTests {
    private static final Check check = new Check("PromiseTests");

    public static void main(String[] args) {
        newObject();
        pattern();
        compile();
        position();
        clear();
        instruction();
        groups();
        start();
        feed();
        matched();
        live();
        isLive();
        mark();
        fed();
        callsWithoutProgram();
        for (int seed = 0; seed < 400; seed++) {
            anyCalls(new Check.Numbers(seed));
        }
        check.end();
    }

    private static void fresh(String when, Counted walk) {
        check.due(when + ": position", walk.position(), -1);
        check.due(when + ": groups", walk.groups(), -1);
        check.due(when + ": instruction", walk.instruction(0, 0), -1);
        check.due(when + ": start", walk.start(false), false);
        check.due(when + ": feed", walk.feed('a'), false);
        check.due(when + ": matched", walk.matched(), false);
        check.due(when + ": live", walk.live(), 0);
        check.due(when + ": live ones", Check.liveOnes(walk), "");
        check.due(when + ": marks", Check.marks(walk), "-1");
        check.due(when + ": fed", walk.fed(), -1);
        check.due(when + ": compile of the empty pattern", Check.compile(walk), 3);
    }

    private static void newObject() {
        check.due("NONE", PatternWalk.NONE, -1);
        fresh("new", new Counted());
        Counted one = Check.walked("a", false, "a");
        Counted other = new Counted();
        fresh("another new one", other);
        check.due("the one beside it", one.matched(), true);
    }

    private static void pattern() {
        Counted walk = new Counted();
        for (int code : new int[] {0, 10, 31, 127, 128, 255, 256, 288, 65535}) {
            check.due("pattern of code " + code, walk.pattern((char) code), false);
        }
        check.due("nothing was added", Check.compile(walk), 3);
        for (int code = 32; code <= 126; code++) {
            check.due("pattern of code " + code, new Counted().pattern((char) code), true);
        }
        Counted full = Check.written(Check.times("a", 47));
        check.due("the 48th", full.pattern('b'), true);
        check.due("the 49th", full.pattern('c'), false);
        check.due("48 characters", Check.compile(full), 51);
        full.start(false);
        Check.feed(full, Check.times("a", 47) + "b");
        check.due("the 48 are what was written", full.matched(), true);
        check.due("behind a program", full.pattern('a'), false);
        Counted short1 = Check.compiled("a");
        check.due("behind a short program", short1.pattern('a'), false);
        check.due("which stays as it is", Check.listing(short1), "MARK 0; TAKE 1; MARK 1; MATCH");
        Counted failed = Check.written("(");
        Check.compile(failed);
        check.due("behind an error", failed.pattern(')'), true);
        check.due("and it counts", Check.compile(failed), 5);
    }

    private static void compile() {
        check.due("empty", Check.compile(new Counted()), 3);
        check.due("a", Check.compile(Check.written("a")), 4);
        check.due("a(b|c)*d", Check.compile(Check.written("a(b|c)*d")), 13);
        check.due("no pattern", Check.compile(Check.written("a**")), Check.NO_PATTERN);
        check.due("too long", Check.compile(Check.written("(?:a{9}){9}(?:b{9}){9}")), Check.WRONG_STATE);
        check.due("too long and no pattern", Check.compile(Check.written("(?:(?:a{9}){9}){9}*")), Check.NO_PATTERN);

        Counted walk = Check.walked("a*", false, "aa");
        check.due("a second time", Check.compile(walk), Check.WRONG_STATE);
        check.due("the word stays", walk.fed(), 2);
        check.due("the match stays", walk.matched(), true);
        check.due("the position stays", walk.position(), -1);

        Counted idle = Check.compiled("a");
        check.due("the word is not begun", idle.fed(), -1);
        check.due("nothing is fed", idle.feed('a'), false);

        Counted again = Check.written("(?:a{9}){9}(?:b{9}){9}");
        Check.compile(again);
        check.due("too long leaves no program", again.groups(), -1);
        check.due("too long again", Check.compile(again), Check.WRONG_STATE);
        check.due("more may be written", again.pattern('*'), true);
        check.due("and makes it no pattern", Check.compile(again), Check.NO_PATTERN);
    }

    private static void position() {
        Counted walk = Check.written("ab(c");
        check.due("before compile", walk.position(), -1);
        Check.compile(walk);
        check.due("something is missing", walk.position(), 4);
        check.due("asked again", walk.position(), 4);
        walk.pattern('*');
        check.due("after a character more", walk.position(), 4);
        Check.compile(walk);
        check.due("compiled again", walk.position(), 5);
        walk.pattern(')');
        Check.compile(walk);
        check.due("mended", walk.position(), -1);

        Counted late = Check.written("(?:a{9}){9}(?:b{9}){9}(");
        Check.compile(late);
        check.due("no pattern, and long", late.position(), 23);
        late.pattern(')');
        check.due("only long", Check.compile(late), Check.WRONG_STATE);
        check.due("the latest was the other exception", late.position(), -1);
    }

    private static void clear() {
        Counted walk = Check.walked("(a)b*", true, "xab");
        walk.clear();
        fresh("cleared with a match", walk);
        walk.clear();
        fresh("cleared again", walk);
        Counted failed = Check.written("a)");
        Check.compile(failed);
        failed.clear();
        fresh("cleared after an error", failed);
        Counted full = Check.written(Check.times("[^a]", 12));
        full.clear();
        Check.write(full, "b");
        check.due("a new pattern", Check.compile(full), 4);
        check.due("of one character", full.instruction(1, 1), 1);
        check.due("its word is not begun", full.fed(), -1);
        Counted other = Check.walked("[^a]{2}", false, "bb");
        other.clear();
        Check.write(other, "[ab]");
        other.compile();
        check.due("new sets", Check.listing(other), "MARK 0; TAKE 2; MARK 1; MATCH");
        other.start(false);
        check.due("a new word", other.fed() + " " + other.matched() + " " + other.live(), "0 false 1");
        usedAgain();
    }

    /** One object for its 512 calls: what an earlier pattern left must not be in the way of a later one. */
    private static void usedAgain() {
        Counted walk = new Counted();
        Check.write(walk, Check.times("a", 47) + "(");
        for (int i = 0; i < 40; i++) {
            check.due("the same error", Check.compile(walk) + " " + walk.position(), Check.NO_PATTERN + " 48");
        }
        for (int round = 0; round < 6; round++) {
            walk.clear();
            String letter = String.valueOf((char) ('b' + round));
            Check.write(walk, Check.times(letter, 46) + "z");
            check.due("size in round " + round, Check.compile(walk), 50);
            check.due("a TAKE of one", walk.instruction(46, 1) + " " + walk.instruction(47, 1), "1 1");
            walk.start(true);
            Check.feed(walk, letter);
            check.due("live in round " + round, walk.live() + " " + walk.isLive(2), "2 true");
        }
    }

    private static void instruction() {
        Counted walk = Check.compiled("(a|.)+?");
        String[] want = {"3 0 0", "3 2 0", "1 3 5", "0 1 0", "2 6 0", "0 256 0", "3 3 0", "1 8 1", "3 1 0", "4 0 0"};
        for (int k = 0; k < want.length; k++) {
            String got = walk.instruction(k, 0) + " " + walk.instruction(k, 1) + " " + walk.instruction(k, 2);
            check.due("instruction " + k, got, want[k]);
        }
        for (int k : new int[] {-1, 10, 160, 161, Integer.MIN_VALUE, Integer.MAX_VALUE}) {
            for (int what = -1; what <= 3; what++) {
                check.due("instruction(" + k + ", " + what + ")", walk.instruction(k, what), -1);
            }
        }
        for (int what : new int[] {-1, 3, 4, Integer.MIN_VALUE, Integer.MAX_VALUE}) {
            check.due("instruction(7, " + what + ")", walk.instruction(7, what), -1);
        }
        Counted longest = Check.compiled("(?:a{9}){9}(?:b{9}){8}aaaa");
        check.due("the last of 160", longest.instruction(159, 0), 4);
        check.due("behind the last of 160", longest.instruction(160, 0), -1);
    }

    private static void groups() {
        check.due("none", Check.compiled("(?:a|b)").groups(), 0);
        check.due("empty", Check.compiled("").groups(), 0);
        check.due("one", Check.compiled("a(b)").groups(), 1);
        check.due("both kinds", Check.compiled("(a(?:b(c)))").groups(), 2);
        check.due("a repeated one", Check.compiled("(a){3}").groups(), 1);
        check.due("six", Check.compiled("()()()()()()").groups(), 6);
        check.due("no brackets", Check.compiled("\\(a[(]").groups(), 0);
        check.due("written only", Check.written("(a)").groups(), -1);
        Counted failed = Check.written("(a)(");
        Check.compile(failed);
        check.due("no pattern", failed.groups(), -1);
        failed.clear();
        Check.write(failed, "(a)");
        failed.compile();
        check.due("after an error they are counted anew", failed.groups(), 1);
    }

    private static void start() {
        Counted walk = Check.written("a");
        check.due("no program", walk.start(true), false);
        check.due("nothing begun", walk.fed(), -1);
        walk.compile();
        check.due("whole", walk.start(false), true);
        check.due("empty word", walk.fed(), 0);
        Check.feed(walk, "ba");
        check.due("looked at as a whole", walk.matched(), false);
        check.due("search", walk.start(true), true);
        check.due("anew", walk.fed() + " " + walk.matched() + " " + walk.live(), "0 false 1");
        Check.feed(walk, "ba");
        check.due("searched", walk.matched() + " " + Check.marks(walk), "true 1 2");
        walk.start(true);
        check.due("the old match is gone", walk.matched() + " " + Check.marks(walk), "false -1");
        Check.feed(walk, "a");
        walk.start(false);
        Check.feed(walk, "a");
        check.due("whole again", walk.matched() + " " + Check.marks(walk), "true 0 1");
    }

    private static void feed() {
        Counted walk = Check.compiled(".*");
        check.due("not begun", walk.feed('a'), false);
        walk.start(false);
        for (int code : new int[] {256, 257, 353, 65535}) {
            check.due("feed of code " + code, walk.feed((char) code), false);
        }
        check.due("nothing was fed", walk.fed(), 0);
        for (int code : new int[] {0, 1, 31, 127, 128, 255}) {
            check.due("feed of code " + code, walk.feed((char) code), true);
        }
        check.due("six were fed", walk.fed() + " " + walk.matched() + " " + Check.marks(walk), "6 true 0 6");
        for (int i = 6; i < 200; i++) {
            check.due("character " + i, walk.feed('x'), true);
        }
        check.due("the 201st", walk.feed('x'), false);
        check.due("200 stay", walk.fed() + " " + Check.marks(walk), "200 0 200");
        check.due("begun anew", walk.start(true) && walk.feed('x'), true);
        Counted dead = Check.walked("a", false, "b");
        check.due("where nothing can match", dead.feed('b'), true);
        check.due("it counts", dead.fed(), 2);
        dead.clear();
        check.due("cleared", dead.feed('a'), false);
    }

    private static void matched() {
        Counted walk = Check.compiled("ab?");
        check.due("not begun", walk.matched(), false);
        walk.start(false);
        check.due("nothing", walk.matched(), false);
        walk.feed('a');
        check.due("a", walk.matched(), true);
        walk.feed('b');
        check.due("ab", walk.matched(), true);
        walk.feed('b');
        check.due("abb", walk.matched(), false);
        walk.start(true);
        check.due("nothing, searched", walk.matched(), false);
        Check.feed(walk, "xx");
        check.due("xx, searched", walk.matched(), false);
        Check.feed(walk, "a");
        check.due("xxa, searched", walk.matched(), true);
        Check.feed(walk, "xx");
        check.due("xxaxx, searched", walk.matched(), true);
        check.due("empty pattern, whole", Check.walked("", false, "").matched(), true);
        check.due("empty pattern, whole a", Check.walked("", false, "a").matched(), false);
        check.due("empty pattern, searched", Check.walked("", true, "a").matched(), true);
    }

    private static void live() {
        Counted walk = Check.compiled("a(?:b|c|d)e");
        check.due("not begun", walk.live(), 0);
        walk.start(false);
        check.due("at first", walk.live(), 1);
        walk.feed('a');
        check.due("three rows", walk.live(), 3);
        walk.feed('c');
        check.due("then one", walk.live(), 1);
        walk.feed('x');
        check.due("then none", walk.live(), 0);
        walk.start(true);
        Check.feed(walk, "xa");
        check.due("searched: a new start too", walk.live(), 4);
        Check.feed(walk, "be");
        check.due("searched: found, nothing better can come", walk.live(), 0);
    }

    private static void isLive() {
        Counted walk = Check.compiled("ab*");
        check.due("not begun", walk.isLive(1), false);
        walk.start(false);
        check.due("at first", Check.liveOnes(walk), "1");
        walk.feed('a');
        check.due("after a", Check.liveOnes(walk), "3");
        check.due("a SPLIT is none", walk.isLive(2), false);
        check.due("a MARK is none", walk.isLive(5), false);
        check.due("a MATCH is none", walk.isLive(6), false);
        for (int k : new int[] {-1, 7, 160, 161, Integer.MIN_VALUE, Integer.MAX_VALUE}) {
            check.due("isLive(" + k + ")", walk.isLive(k), false);
        }
        walk.clear();
        check.due("cleared", walk.isLive(3), false);
        Check.write(walk, "ab*");
        walk.compile();
        check.due("compiled anew", Check.liveOnes(walk), "");
    }

    private static void mark() {
        Counted walk = Check.compiled("(a)|(b)");
        check.due("not begun", Check.marks(walk), "-1");
        walk.start(false);
        check.due("nothing matched", Check.marks(walk), "-1");
        walk.feed('b');
        check.due("the second row", Check.marks(walk), "0 1 -1 -1 0 1");
        for (int k : new int[] {-1, 6, 13, 14, 15, Integer.MIN_VALUE, Integer.MAX_VALUE}) {
            check.due("mark(" + k + ")", walk.mark(k), -1);
        }
        walk.feed('b');
        check.due("no longer matched", Check.marks(walk), "-1");
        walk.start(true);
        Check.feed(walk, "xxbxa");
        check.due("searched", Check.marks(walk), "2 3 -1 -1 2 3");
        Counted six = Check.walked("(a)(b)(c)(d)(e)(f)", false, "abcdef");
        check.due("all fourteen", Check.marks(six), "0 6 0 1 1 2 2 3 3 4 4 5 5 6");
    }

    private static void fed() {
        Counted walk = Check.compiled("a");
        check.due("not begun", walk.fed(), -1);
        walk.start(true);
        check.due("begun", walk.fed(), 0);
        Check.feed(walk, "abc");
        check.due("three", walk.fed(), 3);
        walk.feed((char) 256);
        check.due("what is refused does not count", walk.fed(), 3);
        walk.start(true);
        check.due("anew", walk.fed(), 0);
        walk.clear();
        check.due("cleared", walk.fed(), -1);
    }

    private static void callsWithoutProgram() {
        Counted walk = Check.written("(a");
        Check.compile(walk);
        check.due("start", walk.start(false) || walk.start(true), false);
        check.due("feed", walk.feed('a'), false);
        check.due("matched", walk.matched(), false);
        check.due("live", walk.live(), 0);
        check.due("isLive", walk.isLive(2), false);
        check.due("mark", walk.mark(0), -1);
        check.due("fed", walk.fed(), -1);
        check.due("instruction", walk.instruction(0, 0), -1);
    }

    /** 512 calls in any order: only compile throws, and only its two exceptions; what is told fits together. */
    private static void anyCalls(Check.Numbers numbers) {
        Counted walk = new Counted();
        int[] odd = {-1, 0, 1, 2, 5, 13, 14, 159, 160, Integer.MIN_VALUE, Integer.MAX_VALUE};
        for (int calls = 0; calls < 500; calls += 6) {
            int k = odd[numbers.below(odd.length)];
            switch (numbers.below(8)) {
                case 0:
                case 1:
                case 2:
                    walk.pattern("ab(|)*?+[^-]{2,}\\.".charAt(numbers.below(18)));
                    break;
                case 3:
                    int size = Check.compile(walk);
                    check.due("an error has a position", walk.position() >= 0, size == Check.NO_PATTERN);
                    break;
                case 4:
                    walk.start(numbers.below(2) == 0);
                    break;
                case 5:
                    walk.feed((char) numbers.below(300));
                    break;
                case 6:
                    walk.instruction(k, odd[numbers.below(odd.length)]);
                    break;
                default:
                    if (numbers.below(8) == 0) {
                        walk.clear();
                    }
                    break;
            }
            check.due("a mark needs a match", walk.mark(k) >= 0 && !walk.matched(), false);
            check.due("what is live is counted", walk.isLive(k) && walk.live() == 0, false);
        }
    }
}
