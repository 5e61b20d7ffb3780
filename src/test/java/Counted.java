/** A PatternWalk that is asked no more often than the document promises answers for. */
final class Counted {
    private static final int CALLS = 512;

    private final PatternWalk walk = new PatternWalk();
    private int calls = 0;

    private PatternWalk asked() {
        calls++;
        if (calls > CALLS) {
            throw new AssertionError("this test asks one object more than " + CALLS + " times");
        }
        return walk;
    }

    /** How many calls are left of the 512. */
    int left() {
        return CALLS - calls;
    }

    boolean pattern(char c) {
        return asked().pattern(c);
    }

    int compile() {
        return asked().compile();
    }

    int position() {
        return asked().position();
    }

    void clear() {
        asked().clear();
    }

    int instruction(int k, int what) {
        return asked().instruction(k, what);
    }

    int groups() {
        return asked().groups();
    }

    boolean start(boolean search) {
        return asked().start(search);
    }

    boolean feed(char c) {
        return asked().feed(c);
    }

    boolean matched() {
        return asked().matched();
    }

    int live() {
        return asked().live();
    }

    boolean isLive(int k) {
        return asked().isLive(k);
    }

    int mark(int k) {
        return asked().mark(k);
    }

    int fed() {
        return asked().fed();
    }
}
