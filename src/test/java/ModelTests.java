import java.util.List;

/** Many patterns, texts and words against the model; the same ones in every run. */
public final class ModelTests {
    private static final Check check = new Check("ModelTests");

    private static final String[] ATOMS = {"a", "b", "c", ".", "\\d", "\\w", "\\a", "\\.", "[ab]", "[^a]",
        "[a-c]", "[^b-z\\d]", "[\\wx]", " ", "-", "^"};
    private static final String[] COUNTS = {"", "", "", "*", "+", "?", "{0}", "{1}", "{2}", "{3}", "{0,}",
        "{1,}", "{2,}", "{0,1}", "{1,2}", "{0,3}", "{2,2}"};
    private static final String[] SHREDS = {"a", "b", "(", ")", "(?:", "[", "]", "^", "-", "{", "}", "2", "1",
        ",", "*", "+", "?", "|", "\\", ".", "(", ")", "a", "[a", "[^", "a-", "{1", "{2,", "z]", ":"};

    public static void main(String[] args) {
        for (int seed = 0; seed < 6000; seed++) {
            shreds(new Check.Numbers(seed));
        }
        for (int seed = 0; seed < 6000; seed++) {
            damaged(new Check.Numbers(50000 + seed));
        }
        for (int seed = 0; seed < 6000; seed++) {
            Check.Numbers numbers = new Check.Numbers(90000 + seed);
            walks(numbers, choice(numbers, 0));
        }
        for (int seed = 0; seed < 1500; seed++) {
            Check.Numbers numbers = new Check.Numbers(130000 + seed);
            walks(numbers, nested(numbers));
        }
        for (int seed = 0; seed < 300; seed++) {
            longWord(new Check.Numbers(170000 + seed));
        }
        check.end();
    }

    private static String choice(Check.Numbers numbers, int depth) {
        StringBuilder text = new StringBuilder();
        int rows = 1 + (numbers.below(3) == 0 ? 1 + numbers.below(2) : 0);
        for (int row = 0; row < rows; row++) {
            text.append(row > 0 ? "|" : "");
            int repeats = numbers.below(4);
            for (int i = 0; i < repeats; i++) {
                text.append(atom(numbers, depth));
                String count = numbers.pick(COUNTS);
                text.append(count).append(!count.isEmpty() && numbers.below(3) == 0 ? "?" : "");
            }
        }
        return text.toString();
    }

    private static String atom(Check.Numbers numbers, int depth) {
        if (depth < 4 && numbers.below(3) == 0) {
            return (numbers.below(3) == 0 ? "(?:" : "(") + choice(numbers, depth + 1) + ")";
        }
        return numbers.below(3) == 0 ? numbers.pick(ATOMS) : ATOMS[numbers.below(3)];
    }

    /** Groups in one another, as deep as they may be and one deeper, with little in each. */
    private static String nested(Check.Numbers numbers) {
        String text = numbers.pick(ATOMS);
        int depth = 5 + numbers.below(5);
        for (int i = 0; i < depth; i++) {
            String count = numbers.below(3) == 0 ? numbers.pick(COUNTS) : "";
            String beside = numbers.below(4) == 0 ? numbers.pick(new String[] {"a", "|", "b|", "()", "(b)"}) : "";
            text = (i % 3 == 0 ? "(?:" : "(") + beside + text + ")" + count;
        }
        return text;
    }

    private static void shreds(Check.Numbers numbers) {
        StringBuilder text = new StringBuilder();
        int count = 1 + numbers.below(9);
        for (int i = 0; i < count; i++) {
            text.append(numbers.pick(SHREDS));
        }
        compare(text.toString());
    }

    private static void damaged(Check.Numbers numbers) {
        StringBuilder text = new StringBuilder(choice(numbers, 1));
        if (text.length() == 0 || text.length() > 40) {
            return;
        }
        int at = numbers.below(text.length());
        if (numbers.below(2) == 0) {
            text.deleteCharAt(at);
        } else {
            text.insert(at, numbers.pick(SHREDS));
        }
        compare(text.toString());
    }

    /** Whether it has a program, which then is the model's. */
    private static boolean compare(String text) {
        if (text.length() > 48) {
            return false;
        }
        Counted walk = Check.written(text);
        int error = Model.error(text);
        List<Model.Step> code = error < 0 ? Model.program(text) : null;
        int want = error >= 0 ? Check.NO_PATTERN : code.size() > 160 ? Check.WRONG_STATE : code.size();
        check.due("compile of " + text, Check.compile(walk), want);
        check.due("position of " + text, walk.position(), error);
        if (want > 0) {
            check.due("program of " + text, Check.listing(walk), Model.listing(code));
        }
        return want > 0;
    }

    private static void walks(Check.Numbers numbers, String text) {
        if (!compare(text)) {
            return;
        }
        List<Model.Step> code = Model.program(text);
        for (int round = 0; round < 4; round++) {
            // A new object for every word, so that none is asked more than 512 times.
            Counted walk = Check.compiled(text);
            boolean search = numbers.below(2) == 0;
            walk.start(search);
            StringBuilder word = new StringBuilder();
            int length = numbers.below(10);
            for (int i = 0; i < length; i++) {
                same(walk, code, text, word, search);
                char c = "aaaabbbbc1x-^".charAt(numbers.below(13));
                word.append(c);
                walk.feed(c);
            }
            Model.Outcome want = same(walk, code, text, word, search);
            String live = want.live.toString().replaceAll("[\\[\\],]", "");
            check.due("isLive of " + text + " and " + word, Check.liveOnes(walk, code.size() + 1), live);
        }
    }

    /** As long as words may be, and looked at now and then. */
    private static void longWord(Check.Numbers numbers) {
        String text = choice(numbers, 2);
        if (text.length() > 20 || !compare(text)) {
            return;
        }
        List<Model.Step> code = Model.program(text);
        boolean search = numbers.below(2) == 0;
        String letters = numbers.pick(new String[] {"a", "aaaaaaab", "ab", "aaabbb1", "ab1c"});
        Counted walk = Check.compiled(text);
        walk.start(search);
        StringBuilder word = new StringBuilder();
        for (int i = 1; i <= 200; i++) {
            char c = letters.charAt(numbers.below(letters.length()));
            word.append(c);
            walk.feed(c);
            if (i % 25 == 0 || i == 199) {
                same(walk, code, text, word, search);
            }
        }
        walk.feed('a');
        same(walk, code, text, word, search);
    }

    private static Model.Outcome same(Counted walk, List<Model.Step> code, String text, StringBuilder word,
            boolean search) {
        Model.Outcome want = Model.walk(code, word.toString(), search);
        String where = " of " + text + (search ? " searched in " : " with the whole ") + word;
        check.due("fed" + where, walk.fed(), word.length());
        check.due("matched" + where, walk.matched(), want.marks != null);
        StringBuilder marks = new StringBuilder();
        for (int k = 0; k < 14; k++) {
            marks.append(' ').append(want.marks == null ? -1 : want.marks[k]);
        }
        check.due("marks" + where, Check.marks(walk), marks.toString().trim().replaceAll("( -1)+$", ""));
        check.due("live" + where, walk.live(), want.live.size());
        return want;
    }
}
