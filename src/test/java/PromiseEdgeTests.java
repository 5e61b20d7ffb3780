/** The boundaries and refused calls that the promises name, sentence by sentence. */
public final class PromiseEdgeTests {
    private static final Check check = new Check("PromiseEdgeTests");

    private static final String LONG = "(?:a{9}){9}(?:b{9}){8}";
    private static final String LONGEST = LONG + "aaaa";
    private static final String TOO_LONG = LONG + "aaaaa";
    private static final int[] FAR = {-2, 161, 1000, 65536, Integer.MIN_VALUE, Integer.MIN_VALUE + 1, Integer.MAX_VALUE};

    public static void main(String[] args) {
        newObject();
        patternTrue();
        patternFalseByCode();
        patternFalseWhenFull();
        patternFalseBehindProgram();
        compileSize();
        compileBeginsNoWord();
        compileNoPattern();
        compileTwice();
        compileTooMany();
        programComesFirst();
        positionOfError();
        positionNone();
        positionLatest();
        clearAtFirst();
        clearAnyState();
        clearGivesRoom();
        instructionKinds();
        instructionCounts();
        instructionNoSuchOne();
        instructionNoSuchWhat();
        instructionNoProgram();
        groupsOfProgram();
        groupsNone();
        startAnew();
        startWhileLive();
        startFalse();
        feedTrue();
        feedNotBegun();
        feedCode();
        feedFull();
        matchedSoFar();
        matchedNotBegun();
        liveCount();
        liveMost();
        liveNotBegun();
        isLiveTake();
        isLiveNoTake();
        isLiveNotBegun();
        markOfMatch();
        markNotSet();
        markNoSuchOne();
        markNothingMatched();
        fedCount();
        fedNone();
        all512Calls();
        wordsFor512Calls();
        check.end();
    }

    /** Everything that can be asked without changing anything, in one text. */
    private static String state(Counted walk) {
        return walk.position() + " " + walk.groups() + " " + walk.instruction(1, 0) + walk.instruction(1, 1) + " "
            + walk.fed() + " " + walk.matched() + " " + walk.live() + walk.isLive(1) + walk.isLive(2) + " "
            + Check.marks(walk);
    }

    private static final String FIRST = state(new Counted());

    private static void newObject() {
        check.sentence("Promise 1: An empty pattern, no program");
        check.due("all answers", FIRST, "-1 -1 -1-1 -1 false 0falsefalse -1");
        check.due("the empty pattern", Check.outcome(new Counted()), "3");
        check.due("room for 48", Check.outcome(Check.times("a", 48)), "51");
        check.due("no program to start", new Counted().start(false) || new Counted().start(true), false);
        Counted used = Check.walked("(a)", false, "a");
        check.due("a new one beside a used one", state(new Counted()), FIRST);
        check.due("the used one", Check.marks(used), "0 1 0 1");
    }

    private static void patternTrue() {
        check.sentence("Promise 2: A character more of the pattern: true");
        Counted walk = new Counted();
        for (int i = 0; i < 48; i++) {
            check.due("character " + i, walk.pattern((char) ('a' + i % 26)), true);
        }
        check.due("all are there", Check.outcome(walk), "51");
        for (int code = 32; code <= 126; code++) {
            check.due("code " + code, new Counted().pattern((char) code), true);
        }
    }

    private static void patternFalseByCode() {
        check.sentence("Promise 2: False if its code is not 32 .. 126");
        Counted walk = Check.written("a");
        for (int code = 0; code <= 31; code++) {
            check.due("code " + code, walk.pattern((char) code), false);
        }
        for (int code = 127; code <= 300; code++) {
            check.due("code " + code, walk.pattern((char) code), false);
        }
        for (int code : new int[] {32767, 32768, 32768 + 97, 65504, 65535}) {
            check.due("code " + code, walk.pattern((char) code), false);
        }
        check.due("the pattern is as it was", Check.outcome(walk), "4");
    }

    private static void patternFalseWhenFull() {
        check.sentence("Promise 2: False if .. it has 48");
        Counted walk = Check.written(Check.times("a", 47));
        check.due("the 48th", walk.pattern('b'), true);
        for (int i = 49; i < 60; i++) {
            check.due("one more", walk.pattern('c'), false);
        }
        check.due("the pattern is as it was", Check.outcome(walk), "51");
        walk.start(false);
        Check.feed(walk, Check.times("a", 47) + "b");
        check.due("also its last character", walk.matched(), true);
        Counted wrong = Check.written(Check.times("a", 46) + "((");
        check.due("full and no pattern", Check.outcome(wrong), "error at 48");
        check.due("there is no mending it", wrong.pattern(')'), false);
    }

    private static void patternFalseBehindProgram() {
        check.sentence("Promise 2: False if .. there is a program");
        Counted walk = Check.written("a");
        check.due("before compile", walk.pattern('b'), true);
        walk.compile();
        check.due("behind compile", walk.pattern('c'), false);
        walk.start(false);
        check.due("in a word", walk.pattern('c'), false);
        check.due("the program is as it was", Check.listing(walk), "MARK 0; TAKE 1; TAKE 1; MARK 1; MATCH");
        walk.clear();
        check.due("cleared", walk.pattern('c'), true);
        check.due("what was refused is not there", Check.outcome(walk), "4");
        Counted empty = Check.compiled("");
        check.due("behind the empty one's program", empty.pattern('a'), false);
        Counted wrong = Check.written("(");
        check.due("no pattern", Check.outcome(wrong), "error at 1");
        check.due("behind an error there is no program", wrong.pattern(')'), true);
        Counted late = Check.written(TOO_LONG);
        check.due("too many", Check.outcome(late), "too many");
        check.due("behind too many there is no program", late.pattern('?'), true);
    }

    private static void compileSize() {
        check.sentence("Promise 3: how many instructions it has");
        for (String pattern : new String[] {"", "a", "a*", "(a|b)+?", "a{9}", LONG + "aaa", LONGEST}) {
            Counted walk = Check.written(pattern);
            int size = Check.compile(walk);
            check.due("the last one of " + pattern, walk.instruction(size - 1, 0), 4);
            check.due("behind the last one of " + pattern, walk.instruction(size, 0), -1);
        }
        check.due("the least", Check.outcome(""), "3");
        check.due("the most", Check.outcome(LONGEST), "160");
    }

    private static void compileBeginsNoWord() {
        check.sentence("Promise 3: the word is not begun");
        Counted walk = Check.compiled("a*");
        check.due("fed, live, matched", walk.fed() + " " + walk.live() + " " + walk.matched(), "-1 0 false");
        check.due("feed", walk.feed('a'), false);
        Counted again = Check.walked("a*", true, "aaa");
        again.clear();
        Check.write(again, "a*");
        again.compile();
        check.due("behind an earlier pattern's word", again.fed() + " " + again.live() + " " + again.matched(), "-1 0 false");
        check.due("feed behind it", again.feed('a'), false);
    }

    private static void compileNoPattern() {
        check.sentence("Promise 3: IllegalArgumentException if it is no pattern");
        check.due("(", Check.compile(Check.written("(")), Check.NO_PATTERN);
        check.due("()", Check.compile(Check.written("()")), 5);
        check.due("())", Check.compile(Check.written("())")), Check.NO_PATTERN);
        check.due("no pattern, and it would be too long", Check.compile(Check.written(TOO_LONG + "(")), Check.NO_PATTERN);
        Counted walk = Check.written("a(b");
        check.due("once", Check.outcome(walk), "error at 3");
        check.due("and again", Check.outcome(walk), "error at 3");
        check.due("there is no program", walk.groups() + " " + walk.instruction(0, 0) + walk.start(true), "-1 -1false");
        walk.pattern(')');
        check.due("mended", Check.outcome(walk), "7");
    }

    private static void compileTwice() {
        check.sentence("Promise 3: IllegalStateException if there is a program");
        for (String pattern : new String[] {"", "(a)b", LONGEST}) {
            Counted walk = Check.compiled(pattern);
            String before = state(walk);
            check.due("a second time", Check.compile(walk), Check.WRONG_STATE);
            check.due("nothing has changed", state(walk), before);
            walk.start(false);
            walk.feed('a');
            before = state(walk);
            check.due("in a word", Check.compile(walk), Check.WRONG_STATE);
            check.due("nothing has changed in the word", state(walk), before);
            walk.clear();
            check.due("cleared", Check.outcome(walk), "3");
        }
    }

    private static void compileTooMany() {
        check.sentence("Promise 3: IllegalStateException if .. it would have more than 160 instructions");
        check.due("159", Check.compile(Check.written(LONG + "aaa")), 159);
        check.due("160", Check.compile(Check.written(LONGEST)), 160);
        check.due("161", Check.compile(Check.written(TOO_LONG)), Check.WRONG_STATE);
        check.due("162", Check.compile(Check.written(TOO_LONG + "a")), Check.WRONG_STATE);
        Counted walk = Check.written(TOO_LONG);
        check.due("once", Check.outcome(walk), "too many");
        check.due("and again", Check.outcome(walk), "too many");
        check.due("there is no program", state(walk), FIRST);
        check.due("nor can one start", walk.start(false), false);
        Check.write(walk, "{0}");
        check.due("made shorter", Check.outcome(walk), "160");
    }

    private static void programComesFirst() {
        check.sentence("Promise 3: That there is one comes first of all");
        Counted walk = Check.written("(");
        check.due("no pattern", Check.compile(walk), Check.NO_PATTERN);
        walk.pattern(')');
        check.due("a pattern", Check.compile(walk), 5);
        check.due("a character that would make it none", walk.pattern(')'), false);
        check.due("there is a program", Check.compile(walk), Check.WRONG_STATE);
        check.due("and no error", walk.position(), -1);
    }

    private static void positionOfError() {
        check.sentence("Promise 4: The position of the error, if compile threw IllegalArgumentException latest");
        check.due("the least", Check.outcome(")"), "error at 0");
        check.due("one", Check.outcome("a)"), "error at 1");
        check.due("the last character", Check.outcome(Check.times("a", 47) + ")"), "error at 47");
        check.due("behind the last character", Check.outcome(Check.times("a", 47) + "("), "error at 48");
        Counted walk = Check.written("ab)");
        Check.compile(walk);
        walk.start(true);
        walk.feed('a');
        walk.instruction(0, 0);
        walk.pattern((char) 31);
        check.due("after refused calls", walk.position() + " " + walk.position(), "2 2");
        walk.pattern('c');
        check.due("after a character more", walk.position(), 2);
    }

    private static void positionNone() {
        check.sentence("Promise 4: NONE otherwise");
        check.due("new", new Counted().position(), -1);
        check.due("written and wrong, not compiled", Check.written(")").position(), -1);
        check.due("compiled", Check.compiled("a").position(), -1);
        Counted walk = Check.written(TOO_LONG);
        Check.compile(walk);
        check.due("too many", walk.position(), -1);
        Counted twice = Check.compiled("a");
        Check.compile(twice);
        check.due("compiled twice", twice.position(), -1);
        Counted cleared = Check.written(")");
        Check.compile(cleared);
        cleared.clear();
        check.due("cleared", cleared.position(), -1);
    }

    private static void positionLatest() {
        check.sentence("Promise 4: if compile threw IllegalArgumentException latest");
        Counted walk = Check.written("a(");
        check.due("the first", Check.outcome(walk), "error at 2");
        Check.write(walk, "b");
        check.due("the second", Check.outcome(walk), "error at 3");
        Check.write(walk, ")");
        check.due("then a program", Check.outcome(walk), "7");
        check.due("and none more", walk.position(), -1);
        Counted late = Check.written(TOO_LONG + "(");
        check.due("no pattern", Check.outcome(late), "error at 28");
        Check.write(late, ")");
        check.due("then too many", Check.outcome(late), "too many");
        Check.write(late, ")");
        check.due("then none again", Check.outcome(late), "error at 29");
    }

    private static void clearAtFirst() {
        check.sentence("Promise 5: Everything as at first");
        Counted walk = new Counted();
        walk.clear();
        check.due("nothing to clear", state(walk), FIRST);
        walk.clear();
        check.due("twice", state(walk), FIRST);
        check.due("the empty pattern", Check.outcome(walk), "3");
        walk.clear();
        check.due("behind the least program", state(walk), FIRST);
    }

    private static void clearAnyState() {
        check.sentence("Promise 5: pattern and program are gone");
        Counted[] used = {Check.written("abc"), Check.written("a)"), Check.written(TOO_LONG), Check.compiled("(a)"),
            Check.walked("(a)", false, ""), Check.walked("(a)b", false, "a"), Check.walked("(a)", true, "xa"),
            Check.walked("a*", false, Check.times("a", 200)), Check.written(Check.times("a", 48))};
        for (int i = 0; i < used.length; i++) {
            if (i == 1 || i == 2) {
                Check.compile(used[i]);
            }
            used[i].clear();
            check.due("state " + i, state(used[i]), FIRST);
            check.due("start in state " + i, used[i].start(true), false);
            check.due("feed in state " + i, used[i].feed('a'), false);
            check.due("compile in state " + i, Check.outcome(used[i]), "3");
            used[i].start(false);
            check.due("a word in state " + i, used[i].fed() + " " + Check.marks(used[i]), "0 0 0");
        }
    }

    private static void clearGivesRoom() {
        check.sentence("Promise 5: Everything as at first");
        Counted walk = Check.written(Check.times("b", 48));
        for (int round = 0; round < 5; round++) {
            walk.clear();
            Check.write(walk, Check.times("[^b]", 12));
            check.due("48 again in round " + round, Check.outcome(walk), "15");
            check.due("full again in round " + round, walk.pattern('a'), false);
        }
        walk.clear();
        Check.write(walk, "(a)(b)");
        check.due("new numbers", walk.compile() + " " + walk.groups(), "9 2");
        check.due("new sets", walk.instruction(2, 1) + " " + walk.instruction(5, 1), "1 1");
        walk.start(false);
        Check.feed(walk, "ab");
        check.due("a new word", Check.marks(walk) + " " + walk.live(), "0 2 0 1 1 2 0");
    }

    private static void instructionKinds() {
        check.sentence("Promise 6: what 0 its kind, 1: x of SPLIT and JUMP, k of MARK, .. 0 of MATCH; 2: y of SPLIT, 0 of others");
        Counted walk = Check.compiled("(a|.)*");
        String[] want = {"3 0 0", "1 2 9", "3 2 0", "1 4 6", "0 1 0", "2 7 0", "0 256 0", "3 3 0", "2 1 0", "3 1 0", "4 0 0"};
        for (int k = 0; k < want.length; k++) {
            String got = walk.instruction(k, 0) + " " + walk.instruction(k, 1) + " " + walk.instruction(k, 2);
            check.due("instruction " + k, got, want[k]);
        }
        Counted six = Check.compiled("()()()()()()");
        check.due("the greatest k of MARK", six.instruction(12, 1), 13);
        Counted far = Check.compiled("(?:(?:a{9}){8}(?:b{9}){9}aa)?");
        check.due("a far y", far.instruction(1, 1) + " " + far.instruction(1, 2), "2 157");
        Counted back = Check.compiled("(?:(?:a{9}){8}(?:b{9}){9}a)*");
        check.due("a far x", back.instruction(156, 0) + " " + back.instruction(156, 1), "2 1");
    }

    private static void instructionCounts() {
        check.sentence("Promise 6: for how many characters TAKE stands");
        String[] atoms = {"a", "\\.", "[aa]", "[a-b]", "\\d", "\\w", "[ -~]", "[^ -~]", "[^ab]", "[^a]", "."};
        int[] want = {1, 1, 1, 2, 10, 63, 95, 161, 254, 255, 256};
        for (int i = 0; i < atoms.length; i++) {
            check.due(atoms[i], Check.compiled(atoms[i]).instruction(1, 1), want[i]);
        }
        Counted walk = Check.compiled("[^a]" + Check.times(".", 43) + "b");
        check.due("the first and the last of many", walk.instruction(1, 1) + " " + walk.instruction(45, 1), "255 1");
    }

    private static void instructionNoSuchOne() {
        check.sentence("Promise 6: NONE if there is no such one");
        String[] patterns = {"", "a", LONG + "aaa", LONGEST};
        int[] sizes = {3, 4, 159, 160};
        for (int i = 0; i < sizes.length; i++) {
            Counted walk = Check.compiled(patterns[i]);
            check.due("the first of " + patterns[i], walk.instruction(0, 0), 3);
            check.due("the last of " + patterns[i], walk.instruction(sizes[i] - 1, 0), 4);
            for (int what = 0; what <= 2; what++) {
                check.due("before the first of " + patterns[i], walk.instruction(-1, what), -1);
                check.due("behind the last of " + patterns[i], walk.instruction(sizes[i], what), -1);
                for (int k : FAR) {
                    check.due("instruction " + k + " of " + patterns[i], walk.instruction(k, what), -1);
                }
            }
        }
        Counted shorter = Check.compiled(LONGEST);
        shorter.clear();
        Check.write(shorter, "a");
        shorter.compile();
        check.due("what a longer program had", shorter.instruction(3, 0) + " " + shorter.instruction(4, 0), "4 -1");
    }

    private static void instructionNoSuchWhat() {
        check.sentence("Promise 6: NONE if there is no such .. what");
        Counted walk = Check.compiled("a|b");
        for (int k = 0; k < 7; k++) {
            check.due("what 0 and 2 of " + k, walk.instruction(k, 0) >= 0 && walk.instruction(k, 2) >= 0, true);
            check.due("what -1 of " + k, walk.instruction(k, -1), -1);
            check.due("what 3 of " + k, walk.instruction(k, 3), -1);
            for (int what : FAR) {
                check.due("what " + what + " of " + k, walk.instruction(k, what), -1);
            }
        }
    }

    private static void instructionNoProgram() {
        check.sentence("Promise 6: NONE if there is no such one");
        Counted[] without = {new Counted(), Check.written("a"), Check.written("("), Check.written(TOO_LONG), Check.compiled("a")};
        Check.compile(without[2]);
        Check.compile(without[3]);
        without[4].clear();
        for (int i = 0; i < without.length; i++) {
            for (int k = -1; k <= 4; k++) {
                check.due("instruction " + k + " of " + i, without[i].instruction(k, 0), -1);
            }
        }
    }

    private static void groupsOfProgram() {
        check.sentence("Promise 7: How many groups with numbers the program has");
        for (int count = 0; count <= 6; count++) {
            check.due(count + " groups", Check.compiled(Check.times("(a)", count)).groups(), count);
            check.due(count + " in one another", Check.compiled(Check.times("(", count) + Check.times(")", count)).groups(), count);
        }
        check.due("without numbers", Check.compiled(Check.times("(?:)", 12)).groups(), 0);
        check.due("both", Check.compiled("(?:(a)(?:b))(c)").groups(), 2);
        check.due("written twice", Check.compiled("(a){2}").groups(), 1);
        check.due("no brackets of groups", Check.compiled("\\([(]").groups(), 0);
    }

    private static void groupsNone() {
        check.sentence("Promise 7: NONE if there is no program");
        check.due("new", new Counted().groups(), -1);
        check.due("written", Check.written("(a)").groups(), -1);
        Counted wrong = Check.written("(a)(b");
        Check.compile(wrong);
        check.due("no pattern", wrong.groups(), -1);
        Counted late = Check.written("(a)" + TOO_LONG);
        Check.compile(late);
        check.due("too many", late.groups(), -1);
        Counted cleared = Check.compiled("(a)");
        cleared.clear();
        check.due("cleared", cleared.groups(), -1);
        cleared.compile();
        check.due("a program without groups", cleared.groups(), 0);
    }

    private static void startAnew() {
        check.sentence("Promise 8: A word begins anew, empty, to be searched or looked at as a whole: true");
        Counted walk = Check.compiled("(a)");
        check.due("whole", walk.start(false), true);
        check.due("empty", walk.fed() + " " + walk.live() + walk.matched(), "0 1false");
        Check.feed(walk, "ba");
        check.due("not searched", walk.matched() + " " + walk.live(), "false 0");
        check.due("search", walk.start(true), true);
        check.due("empty again", walk.fed() + " " + walk.live() + walk.matched(), "0 1false");
        Check.feed(walk, "ba");
        check.due("searched", Check.marks(walk), "1 2 1 2");
        check.due("search again", walk.start(true), true);
        check.due("no match is left", walk.matched() + " " + Check.marks(walk) + " " + walk.live(), "false -1 1");
        Check.feed(walk, "a");
        check.due("found again", Check.marks(walk), "0 1 0 1");
        check.due("whole again", walk.start(false), true);
        Check.feed(walk, "aa");
        check.due("no match of a search is left", walk.matched() + " " + Check.marks(walk), "false -1");
        Counted full = Check.walked("a*", false, Check.times("a", 200));
        check.due("behind a full word", full.start(false) && full.feed('a'), true);
        check.due("of one", full.fed() + " " + Check.marks(full), "1 0 1");
    }

    private static void startWhileLive() {
        check.sentence("Promise 8: A word begins anew, empty");
        Counted walk = Check.compiled("ab*|c");
        for (boolean search : new boolean[] {false, true, true, false, false}) {
            walk.start(search);
            check.due("at first, searched: " + search, Check.liveOnes(walk, 10) + ", " + walk.live(), "2 7, 2");
            walk.start(search);
            check.due("begun twice, searched: " + search, Check.liveOnes(walk, 10) + ", " + walk.live(), "2 7, 2");
            walk.feed('a');
            check.due("after a, searched: " + search, Check.liveOnes(walk, 10) + ", " + walk.live(), "4, 1");
        }
        walk.start(false);
        Check.feed(walk, "x");
        walk.start(false);
        check.due("after a dead word", walk.fed() + ", " + Check.liveOnes(walk, 10) + ", " + walk.live(), "0, 2 7, 2");
    }

    private static void startFalse() {
        check.sentence("Promise 8: false if there is no program");
        Counted[] without = {new Counted(), Check.written("a"), Check.written("("), Check.written(TOO_LONG), Check.walked("a", true, "a")};
        Check.compile(without[2]);
        Check.compile(without[3]);
        without[4].clear();
        for (int i = 0; i < without.length; i++) {
            check.due("whole, of " + i, without[i].start(false), false);
            check.due("search, of " + i, without[i].start(true), false);
            check.due("no word was begun in " + i, without[i].fed() + " " + without[i].feed('a'), "-1 false");
        }
        Counted least = new Counted();
        least.compile();
        check.due("the least program", least.start(false), true);
    }

    private static void feedTrue() {
        check.sentence("Promise 9: A character more of the word: true");
        for (boolean search : new boolean[] {false, true}) {
            Counted walk = Check.compiled("ab");
            walk.start(search);
            check.due("the first", walk.feed('a'), true);
            check.due("the second", walk.feed('b'), true);
            check.due("it counts", walk.matched() + " " + walk.fed(), "true 2");
            check.due("behind a match", walk.feed('c'), true);
            check.due("where nothing is live", walk.feed('c') + " " + walk.live() + " " + walk.fed(), "true 0 4");
        }
    }

    private static void feedNotBegun() {
        check.sentence("Promise 9: False if no word was begun");
        Counted walk = new Counted();
        check.due("new", walk.feed('a'), false);
        walk.pattern('a');
        check.due("written", walk.feed('a'), false);
        walk.compile();
        check.due("compiled", walk.feed('a'), false);
        walk.start(false);
        check.due("nothing was fed", walk.fed(), 0);
        check.due("begun", walk.feed('a') && walk.matched(), true);
        walk.clear();
        check.due("cleared", walk.feed('a'), false);
        check.due("a refused start", walk.start(false) || walk.feed('a'), false);
        walk.compile();
        check.due("compiled anew", walk.feed('a'), false);
    }

    private static void feedCode() {
        check.sentence("Promise 9: False if .. its code is above 255");
        for (boolean search : new boolean[] {false, true}) {
            Counted walk = Check.compiled("[^b]*b");
            walk.start(search);
            for (int code : new int[] {0, 1, 31, 127, 254, 255}) {
                check.due("code " + code, walk.feed((char) code), true);
            }
            String before = state(walk);
            for (int code : new int[] {256, 257, 256 + 'b', 32768, 65535}) {
                check.due("code " + code, walk.feed((char) code), false);
            }
            check.due("nothing has changed", state(walk), before);
            check.due("the word goes on", walk.feed('b') + " " + Check.marks(walk), "true 0 7");
        }
    }

    private static void feedFull() {
        check.sentence("Promise 9: False if .. the word has 200");
        for (boolean search : new boolean[] {false, true}) {
            Counted walk = Check.walked("(a|b)*c?", search, Check.times("a", 198));
            check.due("the 199th", walk.feed('a') + " " + walk.fed(), "true 199");
            check.due("the 200th", walk.feed('b') + " " + walk.fed(), "true 200");
            String before = state(walk);
            for (char c : new char[] {'a', 'c', 'x', 0, 255, 256}) {
                check.due("the 201st", walk.feed(c), false);
            }
            check.due("nothing has changed", state(walk), before);
            check.due("all 200 are there", Check.marks(walk) + " " + walk.live(), "0 200 199 200 3");
        }
        Counted dead = Check.walked("b", false, Check.times("a", 200));
        check.due("where nothing is live", dead.feed('a') + " " + dead.fed(), "false 200");
    }

    private static void matchedSoFar() {
        check.sentence("Promise 10: Whether the word so far is matched");
        Counted walk = Check.compiled("a{2,3}");
        StringBuilder whole = new StringBuilder();
        StringBuilder searched = new StringBuilder();
        walk.start(false);
        for (int i = 0; i < 5; i++) {
            whole.append(walk.matched() ? 1 : 0);
            walk.feed('a');
        }
        walk.start(true);
        for (int i = 0; i < 5; i++) {
            searched.append(walk.matched() ? 1 : 0);
            walk.feed('a');
        }
        check.due("whole", whole, "00110");
        check.due("searched", searched, "00111");
    }

    private static void matchedNotBegun() {
        check.sentence("Promise 10: false if none was begun");
        Counted walk = new Counted();
        check.due("new", walk.matched(), false);
        walk.compile();
        check.due("compiled, and the empty word would be", walk.matched(), false);
        walk.start(false);
        check.due("begun", walk.matched(), true);
        walk.clear();
        check.due("cleared", walk.matched(), false);
        walk.compile();
        check.due("compiled anew", walk.matched(), false);
    }

    private static void liveCount() {
        check.sentence("Promise 11: How many TAKEs are live");
        check.due("none", Check.walked("", false, "").live(), 0);
        check.due("one", Check.walked("a", false, "").live(), 1);
        check.due("two", Check.walked("a?b", false, "").live(), 2);
        check.due("24", Check.walked(Check.times("a?", 23) + "b", false, "").live(), 24);
        check.due("none is left", Check.walked("a?b", false, "ab").live(), 0);
        check.due("one TAKE that two ways come to", Check.walked("(?:a|a)b", false, "a").live(), 1);
    }

    private static void liveMost() {
        check.sentence("Promise 11: How many TAKEs are live");
        Counted walk = Check.walked("(?:a{9}){9}(?:a{9}){8}aaaa", true, Check.times("a", 155));
        check.due("155 characters", walk.live(), 156);
        walk.feed('a');
        check.due("156 characters", walk.live() + " " + walk.isLive(157) + " " + walk.matched(), "157 true false");
        walk.feed('a');
        check.due("157 characters", walk.live() + " " + Check.marks(walk), "0 0 157");
    }

    private static void liveNotBegun() {
        check.sentence("Promise 11: 0 if no word was begun");
        Counted walk = Check.written("a");
        check.due("written", walk.live(), 0);
        walk.compile();
        check.due("compiled", walk.live(), 0);
        walk.start(false);
        check.due("begun", walk.live(), 1);
        walk.clear();
        check.due("cleared", walk.live(), 0);
        Check.write(walk, "ab");
        walk.compile();
        check.due("compiled anew", walk.live(), 0);
    }

    private static void isLiveTake() {
        check.sentence("Promise 12: Whether instruction k is a TAKE that is live");
        Counted walk = Check.compiled("ab*c");
        walk.start(false);
        check.due("at first", Check.liveOnes(walk), "1");
        walk.feed('a');
        check.due("after a", Check.liveOnes(walk), "3 5");
        walk.feed('c');
        check.due("after ac", Check.liveOnes(walk), "");
        Counted longest = Check.walked(LONGEST, false, Check.times("a", 81) + Check.times("b", 72) + "aaa");
        check.due("the last TAKE of 160", longest.isLive(157), true);
        check.due("the ones beside it", longest.isLive(156) || longest.isLive(158), false);
    }

    private static void isLiveNoTake() {
        check.sentence("Promise 12: Whether instruction k is a TAKE");
        Counted walk = Check.walked("(a|b)*", false, "");
        for (int k = -1; k <= 12; k++) {
            check.due("isLive(" + k + ")", walk.isLive(k), k == 4 || k == 6);
        }
        for (int k : FAR) {
            check.due("isLive(" + k + ")", walk.isLive(k), false);
        }
        Counted longest = Check.walked(LONGEST, false, "");
        check.due("the edges of 160", longest.isLive(-1) || longest.isLive(0) || longest.isLive(159) || longest.isLive(160), false);
        Counted shorter = Check.walked("aaaa", true, "aaa");
        check.due("four", Check.liveOnes(shorter), "1 2 3 4");
        shorter.clear();
        Check.write(shorter, "a");
        shorter.compile();
        shorter.start(true);
        Check.feed(shorter, "xxx");
        check.due("behind a shorter program", Check.liveOnes(shorter), "1");
    }

    private static void isLiveNotBegun() {
        check.sentence("Promise 12: a TAKE that is live");
        Counted walk = Check.written("a");
        check.due("written", walk.isLive(1), false);
        walk.compile();
        check.due("compiled", Check.liveOnes(walk, 5), "");
        walk.start(false);
        check.due("begun", Check.liveOnes(walk, 5), "1");
        walk.clear();
        check.due("cleared", Check.liveOnes(walk, 5), "");
        Check.write(walk, "a");
        walk.compile();
        check.due("compiled anew", Check.liveOnes(walk, 5), "");
    }

    private static void markOfMatch() {
        check.sentence("Promise 13: Mark k of the match");
        Counted six = Check.walked("(a)(b)(c)(d)(e)(f)", false, "abcdef");
        int[] want = {0, 6, 0, 1, 1, 2, 2, 3, 3, 4, 4, 5, 5, 6};
        for (int k = 0; k < 14; k++) {
            check.due("mark " + k, six.mark(k), want[k]);
        }
        Counted full = Check.walked("(a*)()", false, Check.times("a", 200));
        check.due("the greatest place", Check.marks(full), "0 200 0 200 200 200");
        Counted searched = Check.walked("(b)", true, Check.times("a", 199) + "b");
        check.due("the greatest start", Check.marks(searched), "199 200 199 200");
    }

    private static void markNotSet() {
        check.sentence("Promise 13: NONE if it is not set");
        Counted walk = Check.compiled("(a)|(b)");
        walk.start(false);
        walk.feed('a');
        check.due("the first row", Check.marks(walk), "0 1 0 1");
        check.due("the other's marks", walk.mark(4) + " " + walk.mark(5), "-1 -1");
        walk.start(false);
        walk.feed('b');
        check.due("the second row", Check.marks(walk), "0 1 -1 -1 0 1");
        check.due("a place 0 is set", Check.walked("()", false, "").mark(2), 0);
    }

    private static void markNoSuchOne() {
        check.sentence("Promise 13: NONE if .. there is no such one");
        Counted none = Check.walked("a", false, "a");
        check.due("mark 1", none.mark(1), 1);
        check.due("mark 2 where no group is", none.mark(2), -1);
        Counted one = Check.walked("(a)", false, "a");
        check.due("mark 3", one.mark(3), 1);
        check.due("mark 4 where one group is", one.mark(4), -1);
        Counted six = Check.walked("((((((a))))))", false, "a");
        check.due("mark 13", six.mark(13), 1);
        check.due("marks -1 and 14", six.mark(-1) + " " + six.mark(14), "-1 -1");
        for (int k : FAR) {
            check.due("mark " + k, six.mark(k), -1);
        }
        Counted fewer = Check.walked("(a)(b)", false, "ab");
        fewer.clear();
        Check.write(fewer, "(a)b");
        fewer.compile();
        fewer.start(false);
        Check.feed(fewer, "ab");
        check.due("behind a pattern with more groups", Check.marks(fewer), "0 2 0 1");
    }

    private static void markNothingMatched() {
        check.sentence("Promise 13: NONE if .. nothing is matched");
        Counted walk = Check.compiled("(a)(b)?");
        check.due("no word begun", Check.marks(walk), "-1");
        walk.start(false);
        check.due("the empty word", Check.marks(walk), "-1");
        walk.feed('a');
        check.due("matched", Check.marks(walk), "0 1 0 1");
        walk.feed('x');
        check.due("no longer", Check.marks(walk), "-1");
        walk.start(true);
        walk.feed('x');
        check.due("not found", Check.marks(walk), "-1");
        walk.feed('a');
        check.due("found", Check.marks(walk), "1 2 1 2");
        walk.clear();
        check.due("cleared", Check.marks(walk), "-1");
        check.due("new", Check.marks(new Counted()), "-1");
    }

    private static void fedCount() {
        check.sentence("Promise 14: How many characters the word has");
        Counted walk = Check.compiled("a");
        walk.start(true);
        check.due("empty", walk.fed(), 0);
        for (int i = 1; i <= 200; i++) {
            walk.feed('x');
            check.due("after " + i, walk.fed(), i);
        }
        walk.feed('x');
        check.due("after one that was refused", walk.fed(), 200);
        walk.start(false);
        check.due("anew", walk.fed(), 0);
        walk.feed((char) 256);
        check.due("a refused code", walk.fed(), 0);
        walk.feed('a');
        Check.compile(walk);
        walk.pattern('a');
        check.due("after refused calls", walk.fed(), 1);
    }

    private static void fedNone() {
        check.sentence("Promise 14: NONE if none was begun");
        Counted walk = new Counted();
        check.due("new", walk.fed(), -1);
        walk.start(false);
        check.due("a refused start", walk.fed(), -1);
        walk.compile();
        check.due("compiled", walk.fed(), -1);
        walk.feed('a');
        check.due("a refused feed", walk.fed(), -1);
        walk.start(false);
        check.due("begun", walk.fed(), 0);
        walk.clear();
        check.due("cleared", walk.fed(), -1);
        walk.compile();
        check.due("compiled anew", walk.fed(), -1);
    }

    private static void all512Calls() {
        check.sentence("An object is used for at most 512 calls after it has been made");
        Counted wrong = Check.written(Check.times("a", 47) + "(");
        while (wrong.left() > 1) {
            check.due("compile with " + wrong.left() + " left", Check.compile(wrong), Check.NO_PATTERN);
        }
        check.due("the 512th call", wrong.position(), 48);
        Counted late = Check.written("(?:(?:((((((a{9}){9}){9}){9}){9}){9}){9}){9}){9}");
        while (late.left() > 1) {
            check.due("compile with " + late.left() + " left", Check.compile(late), Check.WRONG_STATE);
        }
        check.due("the 512th call of another", Check.compile(late), Check.WRONG_STATE);
        Counted cleared = new Counted();
        while (cleared.left() >= 6 + 3) {
            cleared.clear();
            Check.write(cleared, ".+");
            check.due("compile with " + cleared.left() + " left", Check.compile(cleared), 5);
            check.due("start with " + cleared.left() + " left", cleared.start(true) && cleared.feed('a'), true);
        }
        while (cleared.left() > 3) {
            cleared.feed('a');
        }
        check.due("the last calls of a third", cleared.mark(0) + " " + cleared.live() + " " + cleared.matched(), "0 1 true");
    }

    private static void wordsFor512Calls() {
        check.sentence("An object is used for at most 512 calls after it has been made");
        Counted walk = Check.compiled("(?:a{9}){9}(?:a{9}){8}aaaa");
        for (int round = 0; round < 3; round++) {
            walk.start(true);
            Check.feed(walk, Check.times("a", 155));
        }
        while (walk.left() > 3) {
            check.due("with " + walk.left() + " left", walk.fed(), 155);
        }
        check.due("the 510th call", walk.feed('a'), true);
        check.due("the 511th call", walk.live(), 157);
        check.due("the 512th call", walk.feed('a'), true);
    }
}
