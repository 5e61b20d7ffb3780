import java.util.ArrayList;
import java.util.BitSet;
import java.util.HashSet;
import java.util.List;
import java.util.Set;
import java.util.TreeSet;

/**
 * The document a second time, in its most literal form and by other means than the class: a text is
 * tried against the grammar in all ways, code is joined from pieces with relative jumps, and every
 * start's ways are walked one behind the other with a memory of their own.
 */
final class Model {
    private Model() {
    }

    // ---- what is a pattern

    private static final String SPECIAL = "\\.[](){}*+?|";
    private static final String NO_ITEM = "][\\-^";

    static boolean isPattern(String text) {
        return choiceEnds(text, 0).contains(text.length()) && withinLimits(text);
    }

    private static boolean withinLimits(String text) {
        int depth = 0;
        int numbers = 0;
        boolean inSet = false;
        for (int i = 0; i < text.length(); i++) {
            char c = text.charAt(i);
            if (c == '\\') {
                i++;
            } else if (inSet) {
                inSet = c != ']';
            } else if (c == '[') {
                inSet = true;
            } else if (c == ')') {
                depth--;
            } else if (c == '(') {
                depth++;
                numbers += text.startsWith("?", i + 1) ? 0 : 1;
                if (depth > 8 || numbers > 6) {
                    return false;
                }
            }
        }
        return true;
    }

    private static Set<Integer> choiceEnds(String text, int from) {
        Set<Integer> ends = rowEnds(text, from);
        Set<Integer> all = new TreeSet<>(ends);
        for (int end : ends) {
            if (text.startsWith("|", end)) {
                all.addAll(choiceEnds(text, end + 1));
            }
        }
        return all;
    }

    private static Set<Integer> rowEnds(String text, int from) {
        Set<Integer> all = new TreeSet<>();
        all.add(from);
        for (int end : repeatEnds(text, from)) {
            all.addAll(rowEnds(text, end));
        }
        return all;
    }

    private static Set<Integer> repeatEnds(String text, int from) {
        Set<Integer> all = new TreeSet<>();
        int atom = atomEnd(text, from);
        if (atom < 0) {
            return all;
        }
        int count = countEnd(text, atom);
        if (count < 0) {
            all.add(atom);
            return all;
        }
        all.add(count);
        if (text.startsWith("?", count)) {
            all.add(count + 1);
        }
        return all;
    }

    private static int countEnd(String text, int from) {
        for (int end = from + 1; end <= Math.min(from + 5, text.length()); end++) {
            String part = text.substring(from, end);
            if (part.matches("[*+?]|\\{[0-9]\\}|\\{[0-9],\\}")) {
                return end;
            }
            if (part.matches("\\{[0-9],[0-9]\\}") && part.charAt(1) <= part.charAt(3)) {
                return end;
            }
        }
        return -1;
    }

    private static int atomEnd(String text, int from) {
        if (from >= text.length()) {
            return -1;
        }
        char c = text.charAt(from);
        if (c == '.' || SPECIAL.indexOf(c) < 0) {
            return from + 1;
        }
        if (c == '\\') {
            return from + 2 <= text.length() ? from + 2 : -1;
        }
        if (c == '[') {
            return setEnd(text, from + 1);
        }
        if (c == '(') {
            int inner = text.startsWith("?:", from + 1) ? from + 3 : from + 1;
            for (int end : choiceEnds(text, inner)) {
                if (text.startsWith(")", end)) {
                    return end + 1;
                }
            }
        }
        return -1;
    }

    private static int setEnd(String text, int from) {
        int at = text.startsWith("^", from) ? from + 1 : from;
        int items = 0;
        while (at < text.length() && text.charAt(at) != ']') {
            int end = itemEnd(text, at);
            if (end < 0) {
                return -1;
            }
            at = end;
            items++;
        }
        return at < text.length() && items > 0 ? at + 1 : -1;
    }

    private static int itemEnd(String text, int at) {
        if (text.charAt(at) == '\\') {
            return at + 2 <= text.length() ? at + 2 : -1;
        }
        if (!isItem(text, at)) {
            return -1;
        }
        if (!text.startsWith("-", at + 1)) {
            return at + 1;
        }
        boolean range = isItem(text, at + 2) && text.charAt(at) <= text.charAt(at + 2);
        return range ? at + 3 : -1;
    }

    private static boolean isItem(String text, int at) {
        return at < text.length() && NO_ITEM.indexOf(text.charAt(at)) < 0;
    }

    /** Whatever begins a pattern becomes one by one of these and closing brackets. */
    private static final String[] REST = {"", "a", "a]", "]", "~]", "9}", "}", ":", "?:"};

    private static boolean beginsPattern(String text) {
        for (String rest : REST) {
            for (int brackets = 0; brackets <= 8; brackets++) {
                if (isPattern(text + rest + Check.times(")", brackets))) {
                    return true;
                }
            }
        }
        return false;
    }

    static int error(String text) {
        if (isPattern(text)) {
            return -1;
        }
        for (int i = 0; i < text.length(); i++) {
            if (!beginsPattern(text.substring(0, i + 1))) {
                return i;
            }
        }
        return text.length();
    }

    // ---- the program

    /** One instruction; the addresses of a piece of code are distances until the whole stands. */
    static final class Step {
        final char kind;
        final int x;
        final int y;
        final BitSet set;

        Step(char kind, int x, int y, BitSet set) {
            this.kind = kind;
            this.x = x;
            this.y = y;
            this.set = set;
        }

        String told(int at) {
            switch (kind) {
                case 'T': return "TAKE " + set.cardinality();
                case 'S': return "SPLIT " + (at + x) + " " + (at + y);
                case 'J': return "JUMP " + (at + x);
                case 'K': return "MARK " + x;
                default: return "MATCH";
            }
        }
    }

    private static Step split(int x, int y, boolean lazy) {
        return lazy ? new Step('S', y, x, null) : new Step('S', x, y, null);
    }

    private static Step jump(int x) {
        return new Step('J', x, 0, null);
    }

    private static Step markStep(int k) {
        return new Step('K', k, 0, null);
    }

    private final StringBuilder text = new StringBuilder();
    private int groups = 0;

    static List<Step> program(String pattern) {
        Model model = new Model();
        model.text.append(pattern);
        List<Step> code = new ArrayList<>();
        code.add(markStep(0));
        code.addAll(model.choice());
        code.add(markStep(1));
        code.add(new Step('M', 0, 0, null));
        return code;
    }

    /** How many groups with a number a pattern has. */
    static int groups(String pattern) {
        Model model = new Model();
        model.text.append(pattern);
        model.choice();
        return model.groups;
    }

    static String listing(List<Step> code) {
        List<String> all = new ArrayList<>();
        for (int k = 0; k < code.size(); k++) {
            all.add(code.get(k).told(k));
        }
        return String.join("; ", all);
    }

    private boolean eat(String begin) {
        boolean there = text.indexOf(begin) == 0;
        if (there) {
            text.delete(0, begin.length());
        }
        return there;
    }

    private char next() {
        char c = text.charAt(0);
        text.deleteCharAt(0);
        return c;
    }

    private List<Step> choice() {
        List<Step> row = new ArrayList<>();
        while (text.length() > 0 && text.charAt(0) != '|' && text.charAt(0) != ')') {
            row.addAll(repeat());
        }
        if (!eat("|")) {
            return row;
        }
        List<Step> rest = choice();
        List<Step> code = new ArrayList<>();
        code.add(split(1, row.size() + 2, false));
        code.addAll(row);
        code.add(jump(rest.size() + 1));
        code.addAll(rest);
        return code;
    }

    private List<Step> repeat() {
        List<Step> a = atom();
        String count = "";
        for (String one : new String[] {"*", "+", "?"}) {
            if (count.isEmpty() && eat(one)) {
                count = one;
            }
        }
        if (count.isEmpty() && text.indexOf("{") == 0) {
            count = text.substring(0, text.indexOf("}") + 1);
            eat(count);
        }
        boolean lazy = !count.isEmpty() && eat("?");
        return counted(a, count, lazy);
    }

    private static List<Step> counted(List<Step> a, String count, boolean lazy) {
        List<Step> code = new ArrayList<>();
        if (count.isEmpty()) {
            return a;
        }
        if (count.equals("*")) {
            code.add(split(1, a.size() + 2, lazy));
            code.addAll(a);
            code.add(jump(-a.size() - 1));
            return code;
        }
        if (count.equals("+")) {
            code.addAll(a);
            code.add(split(-a.size(), 1, lazy));
            return code;
        }
        if (count.equals("?")) {
            code.add(split(1, a.size() + 1, lazy));
            code.addAll(a);
            return code;
        }
        int m = count.charAt(1) - '0';
        for (int i = 0; i < m; i++) {
            code.addAll(a);
        }
        if (count.length() == 4) {
            code.addAll(counted(a, "*", lazy));
        }
        if (count.length() == 5) {
            int n = count.charAt(3) - '0';
            for (int left = n - m; left > 0; left--) {
                code.add(split(1, left * (a.size() + 1), lazy));
                code.addAll(a);
            }
        }
        return code;
    }

    private List<Step> atom() {
        List<Step> code = new ArrayList<>();
        if (eat("(?:")) {
            code.addAll(choice());
            eat(")");
            return code;
        }
        if (eat("(")) {
            groups++;
            int number = groups;
            code.add(markStep(2 * number));
            code.addAll(choice());
            code.add(markStep(2 * number + 1));
            eat(")");
            return code;
        }
        code.add(new Step('T', 0, 0, characters()));
        return code;
    }

    private BitSet characters() {
        BitSet set = new BitSet();
        if (eat(".")) {
            set.set(0, 256);
        } else if (eat("[")) {
            boolean not = eat("^");
            while (!eat("]")) {
                set.or(item());
            }
            if (not) {
                set.flip(0, 256);
            }
        } else if (eat("\\")) {
            set.or(escaped(next()));
        } else {
            set.set(next());
        }
        return set;
    }

    private BitSet item() {
        if (eat("\\")) {
            return escaped(next());
        }
        BitSet set = new BitSet();
        char from = next();
        char to = eat("-") ? next() : from;
        set.set(from, to + 1);
        return set;
    }

    private static BitSet escaped(char c) {
        BitSet set = new BitSet();
        String all = String.valueOf(c);
        if (c == 'd') {
            all = "0123456789";
        } else if (c == 'w') {
            all = "0123456789_abcdefghijklmnopqrstuvwxyzABCDEFGHIJKLMNOPQRSTUVWXYZ";
        }
        all.chars().forEach(set::set);
        return set;
    }

    // ---- the ways

    /** What the word's ways tell: the match's marks (null if there is none) and the live TAKEs. */
    static final class Outcome {
        int[] marks = null;
        final Set<Integer> live = new TreeSet<>();
    }

    static Outcome walk(List<Step> code, String word, boolean search) {
        Outcome outcome = new Outcome();
        for (int start = 0; start <= (search ? word.length() : 0); start++) {
            int[] marks = new int[14];
            java.util.Arrays.fill(marks, -1);
            way(code, word, search, outcome, new HashSet<>(), new int[] {0, start}, marks);
            if (outcome.marks != null) {
                break;
            }
        }
        return outcome;
    }

    private static void way(List<Step> code, String word, boolean search, Outcome outcome,
            Set<String> came, int[] where, int[] marks) {
        int k = where[0];
        int place = where[1];
        // In a search what comes behind the match's way says nothing more.
        if ((search && outcome.marks != null) || !came.add(k + "@" + place)) {
            return;
        }
        Step step = code.get(k);
        boolean atEnd = place == word.length();
        if (step.kind == 'M') {
            if (outcome.marks == null && (search || atEnd)) {
                outcome.marks = marks;
            }
        } else if (step.kind == 'T') {
            if (atEnd) {
                outcome.live.add(k);
            } else if (step.set.get(word.charAt(place))) {
                way(code, word, search, outcome, came, new int[] {k + 1, place + 1}, marks);
            }
        } else if (step.kind == 'K') {
            int[] changed = marks.clone();
            changed[step.x] = place;
            way(code, word, search, outcome, came, new int[] {k + 1, place}, changed);
        } else {
            way(code, word, search, outcome, came, new int[] {k + step.x, place}, marks);
            if (step.kind == 'S') {
                way(code, word, search, outcome, came, new int[] {k + step.y, place}, marks);
            }
        }
    }
}
