/** What the tests share: comparing answers, making objects, and a row of numbers that is always the same. */
final class Check {
    static final int NO_PATTERN = -101;
    static final int WRONG_STATE = -102;

    private static final long SECONDS = 400;

    private final String name;
    private String sentence = "";
    private int asked = 0;
    private int wrong = 0;

    Check(String name) {
        this.name = name;
        Thread watch = new Thread(this::watch);
        watch.setDaemon(true);
        watch.start();
    }

    /** A call that does not end is to fail the tests, not to hold them up for ever. */
    private void watch() {
        try {
            Thread.sleep(SECONDS * 1000);
        } catch (InterruptedException e) {
            return;
        }
        System.out.println(name + ": no end after " + SECONDS + " seconds; " + sentence);
        Runtime.getRuntime().halt(1);
    }

    /** The document's sentence that the answers from here on are about. */
    void sentence(String words) {
        sentence = "[" + words + "] ";
    }

    void due(String what, Object got, Object want) {
        asked++;
        if (!String.valueOf(got).equals(String.valueOf(want))) {
            wrong++;
            System.out.println(name + ": " + sentence + what + " answered " + got + ", due is " + want);
        }
    }

    void end() {
        System.out.println(name + ": " + asked + " answers, " + wrong + " not as due");
        if (wrong != 0) {
            System.exit(1);
        }
    }

    /** An object with this pattern written, not compiled. */
    static Counted written(String pattern) {
        Counted walk = new Counted();
        write(walk, pattern);
        return walk;
    }

    static void write(Counted walk, String pattern) {
        for (int i = 0; i < pattern.length(); i++) {
            if (!walk.pattern(pattern.charAt(i))) {
                throw new AssertionError("pattern refuses " + pattern.charAt(i) + " at " + i + " of " + pattern);
            }
        }
    }

    static Counted compiled(String pattern) {
        Counted walk = written(pattern);
        walk.compile();
        return walk;
    }

    static Counted walked(String pattern, boolean search, String word) {
        Counted walk = compiled(pattern);
        walk.start(search);
        feed(walk, word);
        return walk;
    }

    static void feed(Counted walk, String word) {
        for (int i = 0; i < word.length(); i++) {
            if (!walk.feed(word.charAt(i))) {
                throw new AssertionError("feed refuses character " + i + " of " + word);
            }
        }
    }

    /** What compile answers, its exceptions as numbers. */
    static int compile(Counted walk) {
        try {
            return walk.compile();
        } catch (IllegalArgumentException | IllegalStateException e) {
            if (e.getClass() == IllegalArgumentException.class) {
                return NO_PATTERN;
            }
            if (e.getClass() == IllegalStateException.class) {
                return WRONG_STATE;
            }
            throw e;
        }
    }

    /** What comes of a text: how many instructions, "error at " and where, or "too many". */
    static String outcome(String text) {
        return outcome(written(text));
    }

    static String outcome(Counted walk) {
        int size = compile(walk);
        int position = walk.position();
        if (size == NO_PATTERN) {
            return "error at " + position;
        }
        String told = size == WRONG_STATE ? "too many" : String.valueOf(size);
        return position == PatternWalk.NONE ? told : told + ", but with an error at " + position;
    }

    /** The program as a text, such as "MARK 0; SPLIT 2 4; TAKE 1; JUMP 1; MARK 1; MATCH". */
    static String listing(Counted walk) {
        String[] names = {"TAKE", "SPLIT", "JUMP", "MARK", "MATCH"};
        StringBuilder list = new StringBuilder();
        int kind = walk.instruction(0, 0);
        for (int k = 0; kind != PatternWalk.NONE; k++) {
            list.append(k == 0 ? "" : "; ").append(names[kind]);
            if (kind != 4) {
                list.append(' ').append(walk.instruction(k, 1));
            }
            if (kind == 1) {
                list.append(' ').append(walk.instruction(k, 2));
            }
            kind = walk.instruction(k + 1, 0);
        }
        return list.toString();
    }

    static String marks(Counted walk) {
        StringBuilder list = new StringBuilder();
        for (int k = 0; k < 14; k++) {
            list.append(k == 0 ? "" : " ").append(walk.mark(k));
        }
        return list.toString().replaceAll("( -1)+$", "");
    }

    /** For short programs: an object is good for 512 calls alone. */
    static String liveOnes(Counted walk) {
        return liveOnes(walk, 30);
    }

    static String liveOnes(Counted walk, int bound) {
        StringBuilder list = new StringBuilder();
        for (int k = -1; k < bound; k++) {
            if (walk.isLive(k)) {
                list.append(list.length() == 0 ? "" : " ").append(k);
            }
        }
        return list.toString();
    }

    static String times(String text, int count) {
        return text.repeat(count);
    }

    /** Numbers that look like chance and are the same in every run. */
    static final class Numbers {
        private long state;

        Numbers(long seed) {
            state = seed;
        }

        int below(int bound) {
            state = state * 6364136223846793005L + 1442695040888963407L;
            return (int) ((state >>> 33) % bound);
        }

        String pick(String[] from) {
            return from[below(from.length)];
        }
    }
}
