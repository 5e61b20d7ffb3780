/** Runs of 512 calls in any order on one object, every answer against the mirror's. */
public final class CallTests {
    private static final Check check = new Check("CallTests");

    private static final String[] PIECES = {"a", "b", "c", "a*", "b+?", "(a|b)", "(?:ab?)*", "[^a]", "[a-c]", "\\d", ".",
        "(a)", "(b*)", "a{2}", "b{0,2}", "|", "(a|ab)", "c??", "(?:|a)"};
    private static final String[] SHREDS = {"(", ")", "(?:", "[", "]", "{", "*", "?", "\\", "a{9}", "{9}", "(?:a{9}){9}"};
    private static final int[] NUMBERS = {-1, 0, 1, 2, 3, 4, 5, 6, 7, 8, 9, 10, 13, 14, 15, 159, 160, 161,
        Integer.MIN_VALUE, Integer.MAX_VALUE};
    private static final int[] CODES = {0, 31, 32, 126, 127, 255, 256, 256 + 'a', 65535};

    private final Check.Numbers numbers;
    private final Counted walk = new Counted();
    private final Mirror mirror = new Mirror();
    private final StringBuilder calls = new StringBuilder();

    private CallTests(int seed) {
        numbers = new Check.Numbers(seed);
    }

    public static void main(String[] args) {
        for (int seed = 0; seed < 1500; seed++) {
            new CallTests(210000 + seed).run();
        }
        check.end();
    }

    private void run() {
        begin();
        while (walk.left() > 80) {
            int kind = numbers.below(24);
            if (kind == 0) {
                oddCall();
            } else if (kind <= 11) {
                feed(numbers.below(12) == 0 ? (char) CODES[numbers.below(CODES.length)] : "aaabbc1".charAt(numbers.below(7)));
            } else if (kind == 12) {
                write(piece());
            } else {
                ask(kind);
            }
            if (numbers.below(30) == 0) {
                clear();
                begin();
            }
        }
        allAnswers();
    }

    /** A pattern, most often a right one, and a word. */
    private void begin() {
        int pieces = numbers.below(6);
        for (int i = 0; i < pieces; i++) {
            write(piece());
        }
        compile();
        start(numbers.below(2) == 0);
    }

    private String piece() {
        return numbers.pick(numbers.below(15) == 0 ? SHREDS : PIECES);
    }

    private void oddCall() {
        switch (numbers.below(4)) {
            case 0:
                clear();
                break;
            case 1:
                compile();
                break;
            default:
                start(numbers.below(2) == 0);
                break;
        }
    }

    private void same(String call, Object got, Object want) {
        calls.append(call).append("; ");
        check.due(calls.length() > 400 ? ".. " + calls.substring(calls.length() - 400) : calls.toString(), got, want);
    }

    private void clear() {
        calls.append("clear(); ");
        walk.clear();
        mirror.clear();
    }

    private void write(String piece) {
        for (char c : piece.toCharArray()) {
            same("pattern(" + c + ")", walk.pattern(c), mirror.pattern(c));
        }
        if (numbers.below(20) == 0) {
            char odd = (char) CODES[numbers.below(CODES.length)];
            same("pattern(" + (int) odd + ")", walk.pattern(odd), mirror.pattern(odd));
        }
    }

    private void compile() {
        same("compile()", Check.compile(walk), mirror.compile());
    }

    private void start(boolean search) {
        same("start(" + search + ")", walk.start(search), mirror.start(search));
    }

    private void feed(char c) {
        same("feed(" + (int) c + ")", walk.feed(c), mirror.feed(c));
    }

    private void ask(int kind) {
        int k = NUMBERS[numbers.below(NUMBERS.length)];
        int what = NUMBERS[numbers.below(6)];
        switch (kind) {
            case 13:
                same("position()", walk.position(), mirror.position());
                break;
            case 14:
                same("groups()", walk.groups(), mirror.groups());
                break;
            case 15:
                same("instruction(" + k + ", " + what + ")", walk.instruction(k, what), mirror.instruction(k, what));
                break;
            case 16:
                same("matched()", walk.matched(), mirror.matched());
                break;
            case 17:
                same("live()", walk.live(), mirror.live());
                break;
            case 18:
                same("isLive(" + k + ")", walk.isLive(k), mirror.isLive(k));
                break;
            case 19:
            case 20:
                same("mark(" + k + ")", walk.mark(k), mirror.mark(k));
                break;
            default:
                same("fed()", walk.fed(), mirror.fed());
                break;
        }
    }

    private void allAnswers() {
        same("position()", walk.position(), mirror.position());
        same("groups()", walk.groups(), mirror.groups());
        same("matched()", walk.matched(), mirror.matched());
        same("live()", walk.live(), mirror.live());
        same("fed()", walk.fed(), mirror.fed());
        for (int k = -1; k <= 14; k++) {
            same("mark(" + k + ")", walk.mark(k), mirror.mark(k));
        }
    }
}
