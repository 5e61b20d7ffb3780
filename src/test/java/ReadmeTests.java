import java.io.File;
import java.lang.reflect.Method;
import java.lang.reflect.Modifier;
import java.net.URL;
import java.net.URLClassLoader;
import java.nio.file.Files;
import java.nio.file.Path;
import java.util.ArrayList;
import java.util.Arrays;
import java.util.List;
import java.util.Set;
import java.util.TreeSet;
import java.util.function.Function;
import java.util.regex.Matcher;
import java.util.regex.Pattern;
import javax.tools.JavaCompiler;
import javax.tools.ToolProvider;

/**
 * README.md itself: its examples become a class that is compiled and run, and every row of its tables is
 * asked. So what it shows can't come to differ from what the class answers.
 */
public final class ReadmeTests {
    private static final Check check = new Check("ReadmeTests");

    private static final String TOO_LONG = "(?:a{9}){9}(?:a{9}){9}";
    private static final Pattern CALL = Pattern.compile("(\\w+)\\.(\\w+)\\((.*)\\);( *// (.*))?");
    private static final Pattern ANSWER = Pattern.compile("(true|false|-?\\d+|throws \\w+)(: .*)?");
    private static final Pattern CODE = Pattern.compile("`([^`]+)`");

    private final List<String> lines;
    private final StringBuilder java = new StringBuilder();
    private final List<String> calls = new ArrayList<>();
    private final List<String> answers = new ArrayList<>();

    private ReadmeTests(List<String> lines) {
        this.lines = lines;
    }

    public static void main(String[] args) throws Exception {
        ReadmeTests tests = new ReadmeTests(Files.readAllLines(Path.of("README.md")));
        tests.wholeFaceIsShown();
        tests.examples();
        tests.refusedCalls();
        tests.runExamples();
        tests.patterns();
        tests.errors();
        tests.programs();
        tests.kinds();
        tests.everyTestIsNamed();
        check.end();
    }

    // ---- the examples

    /** Every line of the java blocks; an empty one stands between two blocks. */
    private List<String> exampleLines() {
        List<String> all = new ArrayList<>();
        boolean inside = false;
        for (String line : lines) {
            if (line.startsWith("```")) {
                inside = line.equals("```java");
                all.add("");
            } else if (inside) {
                all.add(line);
            }
        }
        return all;
    }

    private static Set<String> methods() {
        Set<String> names = new TreeSet<>();
        for (Method method : PatternWalk.class.getDeclaredMethods()) {
            if (Modifier.isPublic(method.getModifiers())) {
                names.add(method.getName());
            }
        }
        return names;
    }

    private void wholeFaceIsShown() {
        Set<String> shown = new TreeSet<>();
        for (String line : exampleLines()) {
            Matcher call = CALL.matcher(line.strip());
            if (call.matches()) {
                shown.add(call.group(2));
            }
        }
        check.due("the methods that the examples show", shown, methods());
        Set<String> refused = new TreeSet<>(Set.of("clear"));
        for (String[] row : table("call")) {
            refused.add(row[0].replaceAll("`(\\w+)\\(.*", "$1"));
        }
        check.due("the methods whose refusals are told", refused, methods());
    }

    /** A block of README.md becomes a block of Java, its calls with answers become answers that are kept. */
    private void examples() {
        boolean open = false;
        for (String line : exampleLines()) {
            if (line.startsWith("PatternWalk walk = new")) {
                java.append(open ? "}\n" : "").append("{\n");
                open = true;
            }
            Matcher call = CALL.matcher(line.strip());
            if (call.matches() && call.group(5) != null) {
                Matcher answer = ANSWER.matcher(call.group(5));
                check.due(line + " names an answer", answer.matches(), true);
                if (answer.matches()) {
                    keep(line, line.strip().replaceAll("; *//.*", ""), answer.group(1));
                }
            } else {
                java.append(line).append('\n');
            }
        }
        java.append(open ? "}\n" : "");
        check.due("there are examples", open, true);
    }

    private void keep(String told, String call, String answer) {
        calls.add(told);
        answers.add(answer);
        java.append("try {\n");
        java.append("got.add(String.valueOf(").append(call).append("));\n");
        java.append("} catch (IllegalArgumentException | IllegalStateException e) {\n");
        java.append("got.add(\"throws \" + e.getClass().getSimpleName());\n");
        java.append("}\n");
    }

    private void refusedCalls() {
        for (String[] row : table("call")) {
            String call = "in.apply(\"" + row[1] + "\")." + code(row[0]).get(0);
            keep(Arrays.toString(row), call, code(row[2]).get(0));
        }
    }

    private void runExamples() throws Exception {
        Path folder = Files.createTempDirectory("readme");
        try {
            List<String> got = new ArrayList<>();
            Function<String, PatternWalk> in = ReadmeTests::objectIn;
            example(folder).getMethod("run", List.class, Function.class).invoke(null, got, in);
            check.due("how many answers the examples give", got.size(), answers.size());
            for (int i = 0; i < answers.size() && i < got.size(); i++) {
                check.due(calls.get(i), got.get(i), answers.get(i));
            }
        } finally {
            for (File file : folder.toFile().listFiles()) {
                Files.delete(file.toPath());
            }
            Files.delete(folder);
        }
    }

    private Class<?> example(Path folder) throws Exception {
        Path source = folder.resolve("ReadmeExample.java");
        Files.writeString(source, "public final class ReadmeExample {\n"
            + "public static void run(java.util.List<String> got,\n"
            + "java.util.function.Function<String, PatternWalk> in) {\n" + java + "}\n}\n");
        JavaCompiler compiler = ToolProvider.getSystemJavaCompiler();
        int failed = compiler.run(null, null, null, "-cp", System.getProperty("java.class.path"),
            "-d", folder.toString(), source.toString());
        check.due("README.md's examples do not compile", failed, 0);
        try (URLClassLoader loader = new URLClassLoader(new URL[] {folder.toUri().toURL()})) {
            return loader.loadClass("ReadmeExample");
        }
    }

    // ---- the states in which calls are refused

    private static PatternWalk objectIn(String state) {
        switch (state) {
            case "there is no program":
            case "its code is below 32":
            case "its code is above 126":
            case "compile was not called":
                return written("");
            case "the pattern has 48 characters":
                return written(Check.times("a", 48));
            case "the text is no pattern":
                return written("a(");
            case "there would be more than 160 instructions":
                return written(TOO_LONG);
            case "compile found too many instructions latest":
                return afterTooMany();
            case "there is a program":
            case "there is a program (this comes first)":
            case "compile made a program latest":
            case "no word was begun":
                return compiled("a");
            default:
                return walked(state);
        }
    }

    private static PatternWalk walked(String state) {
        switch (state) {
            case "there is no such instruction":
            case "there is no such what":
            case "its code is above 255":
            case "the instruction is no TAKE":
            case "nothing is matched":
                return fed(compiled("a"), "");
            case "the word has 200 characters":
                return fed(compiled("a*"), Check.times("a", 200));
            case "the TAKE is not live":
            case "there is no such mark":
                return fed(compiled("a"), "a");
            case "the mark is not set":
                return fed(compiled("a|(b)"), "a");
            default:
                throw new AssertionError("no object is known for which '" + state + "'");
        }
    }

    private static PatternWalk written(String pattern) {
        PatternWalk walk = new PatternWalk();
        for (char c : pattern.toCharArray()) {
            walk.pattern(c);
        }
        return walk;
    }

    private static PatternWalk compiled(String pattern) {
        PatternWalk walk = written(pattern);
        walk.compile();
        return walk;
    }

    /** First an error, so that a position which only stays would be seen. */
    private static PatternWalk afterTooMany() {
        PatternWalk walk = written(TOO_LONG + "(");
        compileRefused(walk, IllegalArgumentException.class);
        walk.pattern(')');
        compileRefused(walk, IllegalStateException.class);
        return walk;
    }

    private static void compileRefused(PatternWalk walk, Class<?> due) {
        try {
            walk.compile();
        } catch (IllegalArgumentException | IllegalStateException e) {
            check.due("compile throws", e.getClass(), due);
        }
    }

    private static PatternWalk fed(PatternWalk walk, String word) {
        walk.start(false);
        for (char c : word.toCharArray()) {
            walk.feed(c);
        }
        return walk;
    }

    // ---- the tables

    /** The rows of the table whose head begins with this cell. */
    private List<String[]> table(String head) {
        List<String[]> rows = new ArrayList<>();
        boolean inside = false;
        for (String line : lines) {
            boolean isHead = line.startsWith("| " + head + " |");
            inside = isHead || (inside && line.startsWith("|"));
            if (inside && !isHead && !line.startsWith("|---")) {
                rows.add(cells(line));
            }
        }
        check.due("there is a table of " + head, rows.isEmpty(), false);
        return rows;
    }

    /** In a table a bar that is no border has a \ before it. */
    private static String[] cells(String line) {
        String[] parts = line.strip().substring(1).split("(?<!\\\\)\\|");
        for (int i = 0; i < parts.length; i++) {
            parts[i] = parts[i].strip().replace("\\|", "|");
        }
        return parts;
    }

    private static List<String> code(String cell) {
        List<String> all = new ArrayList<>();
        Matcher matcher = CODE.matcher(cell);
        while (matcher.find()) {
            all.add(matcher.group(1));
        }
        if (cell.contains("the empty")) {
            all.add("");
        }
        return all;
    }

    private void patterns() {
        int asked = 0;
        for (String[] row : table("pattern | what it is")) {
            for (int column = 2; column < 4; column++) {
                for (String word : code(row[column])) {
                    String pattern = code(row[0]).get(0);
                    boolean matched = Check.walked(pattern, false, word).matched();
                    check.due("'" + pattern + "' matches '" + word + "'", matched, column == 2);
                    asked++;
                }
            }
        }
        check.due("words are shown", asked > 0, true);
    }

    private void errors() {
        for (String[] row : table("no pattern")) {
            String text = code(row[0]).get(0);
            check.due("'" + text + "'", Check.outcome(text), "error at " + row[1]);
        }
    }

    private void programs() {
        for (String[] row : table("pattern | its program")) {
            String pattern = code(row[0]).get(0);
            check.due("the program of '" + pattern + "'", Check.listing(Check.compiled(pattern)), row[1]);
        }
    }

    /** In this program instruction k is the first of its kind. */
    private void kinds() {
        String[] names = {"TAKE", "SPLIT", "JUMP", "MARK", "MATCH"};
        int[] first = {2, 1, 3, 0, 5};
        Counted walk = Check.compiled("a*");
        List<String[]> rows = table("`instruction(k, 0)`");
        check.due("how many kinds are told", rows.size(), names.length);
        for (int kind = 0; kind < names.length && kind < rows.size(); kind++) {
            String[] row = rows.get(kind);
            check.due("kind " + kind, row[0] + " " + row[1], walk.instruction(first[kind], 0) + " " + names[kind]);
            if (row[2].equals("0")) {
                check.due("1 of " + row[1], walk.instruction(first[kind], 1), 0);
            }
            if (row[3].equals("0")) {
                check.due("2 of " + row[1], walk.instruction(first[kind], 2), 0);
            }
        }
    }

    private void everyTestIsNamed() {
        Set<String> named = new TreeSet<>();
        for (String[] row : table("test")) {
            named.addAll(code(row[0]));
        }
        Set<String> there = new TreeSet<>();
        for (String file : new File("src/test/java").list()) {
            if (file.endsWith("Tests.java")) {
                there.add(file.replace(".java", ""));
            }
        }
        check.due("the tests that README.md names", named, there);
    }
}
