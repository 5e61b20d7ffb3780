import java.util.Arrays;

/** A pattern over characters, its program of small steps, and a word that is fed to it. */
public final class PatternWalk {
    public static final int NONE = -1;

    private static final int MAX_PATTERN = 48;
    private static final int FIRST_CODE = 32;
    private static final int LAST_CODE = 126;
    private static final int MAX_GROUPS = 6;
    private static final int MAX_DEPTH = 8;
    private static final int MAX_INSTRUCTIONS = 160;
    private static final int MAX_WORD = 200;
    private static final int CODES = 256;
    private static final int MARKS = 2 * MAX_GROUPS + 2;

    // MARK 0, MARK 1 and MATCH stand in every program.
    private static final int FRAME = 3;

    private static final int TAKE = 0;
    private static final int SPLIT = 1;
    private static final int JUMP = 2;
    private static final int MARK = 3;
    private static final int MATCH = 4;

    private final char[] text;
    private int length;
    private int errorAt;
    private final CharSets sets;
    private final Parser parser;
    private final Program program;
    private final Walk walk;

    public PatternWalk() {
        text = new char[MAX_PATTERN];
        length = 0;
        errorAt = NONE;
        sets = new CharSets();
        parser = new Parser(text, sets);
        program = new Program();
        walk = new Walk(program, sets);
    }

    public boolean pattern(char c) {
        if (c < FIRST_CODE || c > LAST_CODE || program.isWritten()) {
            return false;
        }
        if (length < 0 || length >= MAX_PATTERN) {
            return false;
        }
        text[length] = c;
        length++;
        return true;
    }

    public int compile() throws IllegalArgumentException, IllegalStateException {
        if (program.isWritten()) {
            throw new IllegalStateException("there is a program");
        }
        Row choice = parser.parse(length);
        errorAt = parser.error;
        if (errorAt != NONE) {
            throw new IllegalArgumentException("no pattern");
        }
        if (choice.sizeAsChoice() + FRAME > MAX_INSTRUCTIONS) {
            throw new IllegalStateException("too many instructions");
        }
        program.write(choice, parser.groups);
        return program.size;
    }

    public int position() {
        return errorAt;
    }

    public void clear() {
        length = 0;
        errorAt = NONE;
        program.erase();
        walk.end();
    }

    public int instruction(int k, int what) {
        if (!program.has(k)) {
            return NONE;
        }
        switch (what) {
            case 0:
                return program.kindOf(k);
            case 1:
                return program.kindOf(k) == TAKE ? sets.count(program.xOf(k)) : program.xOf(k);
            case 2:
                return program.yOf(k);
            default:
                return NONE;
        }
    }

    public int groups() {
        return program.isWritten() ? program.numbered : NONE;
    }

    public boolean start(boolean search) {
        if (!program.isWritten()) {
            return false;
        }
        walk.begin(search);
        return true;
    }

    public boolean feed(char c) {
        if (!walk.begun || c >= CODES || walk.place >= MAX_WORD) {
            return false;
        }
        walk.step(c);
        return true;
    }

    public boolean matched() {
        return walk.begun && walk.found;
    }

    public int live() {
        return walk.begun ? walk.now.count : 0;
    }

    public boolean isLive(int k) {
        return walk.begun && walk.standsAt(k);
    }

    public int mark(int k) {
        return walk.begun ? walk.foundMark(k) : NONE;
    }

    public int fed() {
        return walk.begun ? walk.place : NONE;
    }

    /** Sets of characters with numbers from 0 on, all in one row of bits. */
    private static final class CharSets {
        private static final int WORDS = CODES / 64;

        // An atom has at least one character of the pattern, so there are no more sets than those.
        private final long[] bits = new long[MAX_PATTERN * WORDS];
        private int used = 0;

        void forgetAll() {
            used = 0;
            Arrays.fill(bits, 0L);
        }

        int open() {
            if (used >= MAX_PATTERN) {
                return NONE;
            }
            used++;
            return used - 1;
        }

        private boolean isOpen(int set) {
            return set >= 0 && set < used && set < MAX_PATTERN;
        }

        void addRange(int set, int from, int to) {
            if (!isOpen(set)) {
                return;
            }
            for (int code = Math.max(from, 0); code <= to && code < CODES; code++) {
                bits[set * WORDS + (code >> 6)] |= 1L << (code & 63);
            }
        }

        void invert(int set) {
            if (!isOpen(set)) {
                return;
            }
            for (int word = 0; word < WORDS; word++) {
                bits[set * WORDS + word] = ~bits[set * WORDS + word];
            }
        }

        boolean has(int set, int code) {
            if (!isOpen(set) || code < 0 || code >= CODES) {
                return false;
            }
            return (bits[set * WORDS + (code >> 6)] >> (code & 63) & 1L) != 0L;
        }

        int count(int set) {
            int sum = 0;
            for (int word = 0; word < WORDS && isOpen(set); word++) {
                sum += Long.bitCount(bits[set * WORDS + word]);
            }
            return sum;
        }
    }

    /** A row of a choice, in a chain with the rows behind it. */
    private static final class Row {
        // Sizes stop growing here, far above what a program may have, so that they can't wrap around.
        private static final int ENOUGH = 1000;

        private Repeat first = null;
        private Repeat last = null;
        private Row next = null;
        private int size = 0;

        void append(Repeat repeat) {
            if (last == null) {
                first = repeat;
            } else {
                last.next = repeat;
            }
            last = repeat;
            size = Math.min(ENOUGH, size + repeat.size());
        }

        /** How many instructions the choice has that begins with this row. */
        int sizeAsChoice() {
            int sum = size;
            for (Row row = next; row != null; row = row.next) {
                sum = Math.min(ENOUGH, sum + 2 + row.size);
            }
            return sum;
        }
    }

    /** An atom and its count, in a chain with what follows in its row. */
    private static final class Repeat {
        private int set = NONE;
        private Row inner = null;
        private int number = 0;
        private int atomSize = 1;

        private int least = 1;
        private int most = 1;
        private boolean endless = false;
        private boolean plus = false;
        private boolean lazy = false;
        private Repeat next = null;

        int size() {
            if (plus) {
                return atomSize + 1;
            }
            if (endless) {
                return (least + 1) * atomSize + 2;
            }
            return least * atomSize + (most - least) * (atomSize + 1);
        }
    }

    /** Reads a text as a pattern, or finds where it stops being the beginning of one. */
    private static final class Parser {
        private final char[] text;
        private final CharSets sets;
        private int length = 0;
        private int at = 0;
        private int groups = 0;
        private int error = NONE;

        Parser(char[] text, CharSets sets) {
            this.text = text;
            this.sets = sets;
        }

        Row parse(int textLength) {
            length = Math.min(textLength, text.length);
            at = 0;
            groups = 0;
            error = NONE;
            sets.forgetAll();
            Row choice = readChoice(0);
            // Only a ) that closes nothing ends the outermost choice before the text ends.
            if (at < length) {
                fail();
            }
            return choice;
        }

        private int peek() {
            return at >= 0 && at < length && at < text.length ? text[at] : NONE;
        }

        /** Reading never goes past what can't stand there, so the error is always here. */
        private void fail() {
            if (error == NONE) {
                error = at;
            }
        }

        private Row readChoice(int depth) {
            Row first = new Row();
            Row row = first;
            for (int turn = 0; turn < MAX_PATTERN && error == NONE; turn++) {
                int c = peek();
                if (c == NONE || c == ')') {
                    break;
                }
                if (c == '|') {
                    at++;
                    row.next = new Row();
                    row = row.next;
                } else {
                    row.append(readRepeat(depth));
                }
            }
            return first;
        }

        private Repeat readRepeat(int depth) {
            Repeat repeat = new Repeat();
            int c = peek();
            if (c == '(') {
                readGroup(repeat, depth);
            } else {
                repeat.set = sets.open();
                if (c == '[') {
                    readSet(repeat.set);
                } else {
                    readCharacter(repeat.set);
                }
            }
            if (error == NONE) {
                readCount(repeat);
            }
            return repeat;
        }

        private void readGroup(Repeat repeat, int depth) {
            if (depth >= MAX_DEPTH) {
                fail();
                return;
            }
            at++;
            if (peek() == '?') {
                at++;
                expect(':');
            } else if (groups >= MAX_GROUPS) {
                fail();
            } else {
                groups++;
                repeat.number = groups;
            }
            if (error != NONE) {
                return;
            }
            Row inner = readChoice(depth + 1);
            expect(')');
            repeat.inner = inner;
            repeat.atomSize = inner.sizeAsChoice() + (repeat.number > 0 ? 2 : 0);
        }

        private void expect(int c) {
            if (peek() == c) {
                at++;
            } else {
                fail();
            }
        }

        private void readCharacter(int set) {
            int c = peek();
            if (c == '\\') {
                readEscaped(set);
            } else if (c == '.') {
                at++;
                sets.addRange(set, 0, CODES - 1);
            } else if (standsForItself(c)) {
                at++;
                sets.addRange(set, c, c);
            } else {
                fail();
            }
        }

        private static boolean standsForItself(int c) {
            switch (c) {
                case NONE:
                case '\\':
                case '.':
                case '[':
                case ']':
                case '(':
                case ')':
                case '{':
                case '}':
                case '*':
                case '+':
                case '?':
                case '|':
                    return false;
                default:
                    return true;
            }
        }

        private void readSet(int set) {
            at++;
            boolean inverted = peek() == '^';
            if (inverted) {
                at++;
            }
            boolean more = true;
            for (int turn = 0; turn < MAX_PATTERN && more; turn++) {
                if (peek() == '\\') {
                    readEscaped(set);
                } else {
                    readItem(set);
                }
                more = error == NONE && peek() != ']';
            }
            if (error == NONE) {
                expect(']');
            }
            if (inverted) {
                sets.invert(set);
            }
        }

        private void readItem(int set) {
            int from = peek();
            if (!isItem(from)) {
                fail();
                return;
            }
            at++;
            int to = from;
            if (peek() == '-') {
                at++;
                to = peek();
                if (!isItem(to) || to < from) {
                    fail();
                    return;
                }
                at++;
            }
            sets.addRange(set, from, to);
        }

        private static boolean isItem(int c) {
            return c != NONE && c != ']' && c != '[' && c != '\\' && c != '-' && c != '^';
        }

        private void readEscaped(int set) {
            at++;
            int c = peek();
            if (c == NONE) {
                fail();
                return;
            }
            at++;
            if (c == 'd') {
                sets.addRange(set, '0', '9');
            } else if (c == 'w') {
                sets.addRange(set, 'a', 'z');
                sets.addRange(set, 'A', 'Z');
                sets.addRange(set, '0', '9');
                sets.addRange(set, '_', '_');
            } else {
                sets.addRange(set, c, c);
            }
        }

        private void readCount(Repeat repeat) {
            switch (peek()) {
                case '*':
                    repeat.least = 0;
                    repeat.endless = true;
                    at++;
                    break;
                case '+':
                    repeat.least = 0;
                    repeat.plus = true;
                    at++;
                    break;
                case '?':
                    repeat.least = 0;
                    at++;
                    break;
                case '{':
                    at++;
                    readBraces(repeat);
                    break;
                default:
                    return;
            }
            if (error == NONE && peek() == '?') {
                repeat.lazy = true;
                at++;
            }
        }

        private void readBraces(Repeat repeat) {
            int least = digit(peek());
            if (least == NONE) {
                fail();
                return;
            }
            at++;
            repeat.least = least;
            repeat.most = least;
            if (peek() == ',') {
                at++;
                readMost(repeat);
            }
            expect('}');
        }

        private void readMost(Repeat repeat) {
            if (peek() == '}') {
                repeat.endless = true;
                return;
            }
            int most = digit(peek());
            if (most < repeat.least) {
                fail();
                return;
            }
            at++;
            repeat.most = most;
        }

        private static int digit(int c) {
            return c >= '0' && c <= '9' ? c - '0' : NONE;
        }
    }

    /** The instructions; the x of a TAKE is the number of its set. */
    private static final class Program {
        private final int[] kinds = new int[MAX_INSTRUCTIONS];
        private final int[] xs = new int[MAX_INSTRUCTIONS];
        private final int[] ys = new int[MAX_INSTRUCTIONS];
        private int size = 0;
        private int numbered = 0;

        boolean isWritten() {
            return size > 0;
        }

        boolean has(int k) {
            return k >= 0 && k < size && k < MAX_INSTRUCTIONS;
        }

        int kindOf(int k) {
            return has(k) ? kinds[k] : NONE;
        }

        int xOf(int k) {
            return has(k) ? xs[k] : NONE;
        }

        int yOf(int k) {
            return has(k) ? ys[k] : NONE;
        }

        void erase() {
            size = 0;
            numbered = 0;
        }

        void write(Row choice, int groupCount) {
            erase();
            numbered = groupCount;
            add(MARK, 0, 0);
            writeChoice(choice, 0);
            add(MARK, 1, 0);
            add(MATCH, 0, 0);
        }

        private void add(int kind, int x, int y) {
            if (size < 0 || size >= MAX_INSTRUCTIONS) {
                return;
            }
            kinds[size] = kind;
            xs[size] = x;
            ys[size] = y;
            size++;
        }

        private void addSplit(int x, int y, boolean lazy) {
            add(SPLIT, lazy ? y : x, lazy ? x : y);
        }

        private void writeChoice(Row first, int depth) {
            if (first == null || depth > MAX_DEPTH) {
                return;
            }
            int end = size + first.sizeAsChoice();
            for (Row row = first; row != null; row = row.next) {
                if (row.next != null) {
                    add(SPLIT, size + 1, size + row.size + 2);
                }
                for (Repeat repeat = row.first; repeat != null; repeat = repeat.next) {
                    writeRepeat(repeat, depth);
                }
                if (row.next != null) {
                    add(JUMP, end, 0);
                }
            }
        }

        private void writeRepeat(Repeat repeat, int depth) {
            for (int times = 0; times < repeat.least; times++) {
                writeAtom(repeat, depth);
            }
            if (repeat.plus) {
                int begin = size;
                writeAtom(repeat, depth);
                addSplit(begin, size + 1, repeat.lazy);
            } else if (repeat.endless) {
                int split = size;
                addSplit(split + 1, split + repeat.atomSize + 2, repeat.lazy);
                writeAtom(repeat, depth);
                add(JUMP, split, 0);
            } else {
                int end = size + (repeat.most - repeat.least) * (repeat.atomSize + 1);
                for (int times = repeat.least; times < repeat.most; times++) {
                    addSplit(size + 1, end, repeat.lazy);
                    writeAtom(repeat, depth);
                }
            }
        }

        private void writeAtom(Repeat repeat, int depth) {
            // Nothing, nine times over at every depth, would be half a million steps for no instruction.
            if (repeat.atomSize == 0) {
                return;
            }
            if (repeat.inner == null) {
                add(TAKE, repeat.set, 0);
                return;
            }
            if (repeat.number > 0) {
                add(MARK, 2 * repeat.number, 0);
            }
            writeChoice(repeat.inner, depth + 1);
            if (repeat.number > 0) {
                add(MARK, 2 * repeat.number + 1, 0);
            }
        }
    }

    /** Ways that stand at a TAKE, the first one first, each with its marks. */
    private static final class Ways {
        private final int[] takes = new int[MAX_INSTRUCTIONS];
        private final int[] marks = new int[MAX_INSTRUCTIONS * MARKS];
        private int count = 0;

        void add(int take, int[] from) {
            if (count < 0 || count >= MAX_INSTRUCTIONS) {
                return;
            }
            takes[count] = take;
            for (int k = 0; k < MARKS && k < from.length; k++) {
                marks[count * MARKS + k] = from[k];
            }
            count++;
        }

        int takeOf(int way) {
            return way >= 0 && way < count && way < MAX_INSTRUCTIONS ? takes[way] : NONE;
        }

        void copyMarks(int way, int[] to) {
            if (way < 0 || way >= MAX_INSTRUCTIONS) {
                return;
            }
            for (int k = 0; k < MARKS && k < to.length; k++) {
                to[k] = marks[way * MARKS + k];
            }
        }
    }

    /**
     * The word, as all its ways at once. Ways of all starts share what they came to: a way that ends
     * where one of an earlier start was could only find what that one finds, and that one goes before.
     */
    private static final class Walk {
        // A visit takes one thing from the stack and puts at most two there.
        private static final int STACK = 2 * MAX_INSTRUCTIONS + 1;

        private final Program program;
        private final CharSets sets;
        private Ways now = new Ways();
        private Ways before = new Ways();

        private final int[] cameAt = new int[MAX_INSTRUCTIONS];
        private final int[] stack = new int[STACK];
        private final int[] oldMarks = new int[STACK];
        private int height = 0;

        private final int[] marks = new int[MARKS];
        private final int[] foundMarks = new int[MARKS];
        private boolean begun = false;
        private boolean searching = false;
        private boolean found = false;
        private boolean cut = false;
        private int place = 0;

        Walk(Program program, CharSets sets) {
            this.program = program;
            this.sets = sets;
        }

        void end() {
            begun = false;
        }

        void begin(boolean search) {
            begun = true;
            searching = search;
            found = false;
            cut = false;
            place = 0;
            now.count = 0;
            Arrays.fill(cameAt, NONE);
            followFromStart();
        }

        void step(int code) {
            Ways previous = now;
            now = before;
            before = previous;
            now.count = 0;
            place++;
            cut = false;
            // A whole match is one at the end of the word, and that has just moved.
            found = found && searching;
            for (int way = 0; way < previous.count && !cut; way++) {
                int take = previous.takeOf(way);
                if (sets.has(program.xOf(take), code)) {
                    previous.copyMarks(way, marks);
                    follow(take + 1);
                }
            }
            if (searching && !found) {
                followFromStart();
            }
        }

        private void followFromStart() {
            Arrays.fill(marks, NONE);
            follow(0);
        }

        private void follow(int first) {
            height = 0;
            push(first, 0);
            for (int turn = 0; turn < STACK && height > 0 && height <= STACK && !cut; turn++) {
                height--;
                int entry = stack[height];
                if (entry >= 0) {
                    visit(entry);
                } else {
                    setMark(-1 - entry, oldMarks[height]);
                }
            }
        }

        private void push(int entry, int oldMark) {
            if (height < 0 || height >= STACK) {
                return;
            }
            stack[height] = entry;
            oldMarks[height] = oldMark;
            height++;
        }

        private void visit(int k) {
            if (!program.has(k) || k >= MAX_INSTRUCTIONS || cameAt[k] == place) {
                return;
            }
            cameAt[k] = place;
            switch (program.kindOf(k)) {
                case TAKE:
                    now.add(k, marks);
                    break;
                case SPLIT:
                    push(program.yOf(k), 0);
                    push(program.xOf(k), 0);
                    break;
                case JUMP:
                    push(program.xOf(k), 0);
                    break;
                case MARK:
                    passMark(program.xOf(k));
                    push(k + 1, 0);
                    break;
                default:
                    keepMatch();
                    break;
            }
        }

        /** Under what follows the old mark is put, for the ways that come behind. */
        private void passMark(int k) {
            if (k < 0 || k >= MARKS) {
                return;
            }
            push(-1 - k, marks[k]);
            marks[k] = place;
        }

        private void setMark(int k, int value) {
            if (k >= 0 && k < MARKS) {
                marks[k] = value;
            }
        }

        private void keepMatch() {
            found = true;
            cut = searching;
            for (int k = 0; k < MARKS; k++) {
                foundMarks[k] = marks[k];
            }
        }

        int foundMark(int k) {
            return found && k >= 0 && k < MARKS ? foundMarks[k] : NONE;
        }

        boolean standsAt(int k) {
            if (k < 0 || k >= MAX_INSTRUCTIONS) {
                return false;
            }
            return program.kindOf(k) == TAKE && cameAt[k] == place;
        }
    }
}
