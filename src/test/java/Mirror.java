import java.util.List;

/** The face a second time, by the model: it keeps what was written and fed, and works out every answer anew. */
final class Mirror {
    private final StringBuilder text = new StringBuilder();
    private List<Model.Step> code = null;
    private int position = -1;
    private StringBuilder word = null;
    private boolean search = false;

    boolean pattern(char c) {
        if (c < 32 || c > 126 || text.length() == 48 || code != null) {
            return false;
        }
        text.append(c);
        return true;
    }

    int compile() {
        if (code != null) {
            return Check.WRONG_STATE;
        }
        position = Model.error(text.toString());
        if (position >= 0) {
            return Check.NO_PATTERN;
        }
        List<Model.Step> steps = Model.program(text.toString());
        if (steps.size() > 160) {
            return Check.WRONG_STATE;
        }
        code = steps;
        return steps.size();
    }

    int position() {
        return position;
    }

    void clear() {
        text.setLength(0);
        code = null;
        position = -1;
        word = null;
    }

    int instruction(int k, int what) {
        if (code == null || k < 0 || k >= code.size() || what < 0 || what > 2) {
            return -1;
        }
        String[] told = code.get(k).told(k).split(" ");
        if (what == 0) {
            return List.of("TAKE", "SPLIT", "JUMP", "MARK", "MATCH").indexOf(told[0]);
        }
        return told.length > what ? Integer.parseInt(told[what]) : 0;
    }

    int groups() {
        return code == null ? -1 : Model.groups(text.toString());
    }

    boolean start(boolean searched) {
        if (code == null) {
            return false;
        }
        word = new StringBuilder();
        search = searched;
        return true;
    }

    boolean feed(char c) {
        if (word == null || c > 255 || word.length() == 200) {
            return false;
        }
        word.append(c);
        return true;
    }

    private Model.Outcome outcome() {
        return word == null ? new Model.Outcome() : Model.walk(code, word.toString(), search);
    }

    boolean matched() {
        return outcome().marks != null;
    }

    int live() {
        return outcome().live.size();
    }

    boolean isLive(int k) {
        return outcome().live.contains(k);
    }

    int mark(int k) {
        int[] marks = outcome().marks;
        return marks == null || k < 0 || k > 13 ? -1 : marks[k];
    }

    int fed() {
        return word == null ? -1 : word.length();
    }
}
