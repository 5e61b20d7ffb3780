import java.lang.reflect.Constructor;
import java.lang.reflect.Field;
import java.lang.reflect.Method;
import java.lang.reflect.Modifier;
import java.nio.file.Files;
import java.nio.file.Path;
import java.util.Set;
import java.util.TreeSet;
import java.util.regex.Matcher;
import java.util.regex.Pattern;

/** The public face, and those rules of LANGUAGE.md that can be seen without reading the code. */
public final class FaceTests {
    private static final Check check = new Check("FaceTests");

    private static final String[] FACE = {
        "public static final int NONE",
        "public PatternWalk()",
        "public boolean pattern(char)",
        "public int compile() throws java.lang.IllegalArgumentException,java.lang.IllegalStateException",
        "public int position()",
        "public void clear()",
        "public int instruction(int,int)",
        "public int groups()",
        "public boolean start(boolean)",
        "public boolean feed(char)",
        "public boolean matched()",
        "public int live()",
        "public boolean isLive(int)",
        "public int mark(int)",
        "public int fed()",
    };

    public static void main(String[] args) throws Exception {
        face();
        classesInside();
        source(Files.readString(Path.of("src/main/java/PatternWalk.java")));
        check.end();
    }

    private static boolean isSeen(int modifiers, boolean synthetic) {
        return !Modifier.isPrivate(modifiers) && !synthetic;
    }

    private static String plain(String member) {
        return member.replace("PatternWalk.", "");
    }

    private static void face() {
        Set<String> seen = new TreeSet<>();
        for (Field field : PatternWalk.class.getDeclaredFields()) {
            if (isSeen(field.getModifiers(), field.isSynthetic())) {
                seen.add(plain(field.toString()));
            }
        }
        for (Constructor<?> constructor : PatternWalk.class.getDeclaredConstructors()) {
            if (isSeen(constructor.getModifiers(), constructor.isSynthetic())) {
                seen.add(constructor.toString());
            }
        }
        for (Method method : PatternWalk.class.getDeclaredMethods()) {
            if (isSeen(method.getModifiers(), method.isSynthetic())) {
                seen.add(plain(method.toString()));
            }
        }
        check.due("the face", seen, new TreeSet<>(Set.of(FACE)));
        int modifiers = PatternWalk.class.getModifiers();
        check.due("public and final", Modifier.isPublic(modifiers) && Modifier.isFinal(modifiers), true);
    }

    private static void classesInside() {
        Set<String> names = new TreeSet<>();
        for (Method method : PatternWalk.class.getDeclaredMethods()) {
            if (Modifier.isPublic(method.getModifiers())) {
                names.add(method.getName());
            }
        }
        Class<?>[] inside = PatternWalk.class.getDeclaredClasses();
        check.due("at most twelve classes", inside.length < 12, true);
        for (Class<?> one : inside) {
            check.due(one + " is static", Modifier.isStatic(one.getModifiers()), true);
            oneClass(one, names);
        }
        oneClass(PatternWalk.class, names);
    }

    private static void oneClass(Class<?> one, Set<String> publicNames) {
        int fields = 0;
        for (Field field : one.getDeclaredFields()) {
            fields += Modifier.isStatic(field.getModifiers()) ? 0 : 1;
        }
        check.due(one + " has at most twenty fields", fields <= 20, true);
        for (Method method : one.getDeclaredMethods()) {
            boolean borrowed = Modifier.isPrivate(method.getModifiers()) && publicNames.contains(method.getName());
            check.due(method + " bears the name of a public one", borrowed, false);
            check.due(method + " takes at most seven", method.getParameterCount() <= 7, true);
        }
    }

    private static void source(String file) {
        String text = file.replaceAll("(?s)/\\*.*?\\*/", "").replaceAll("//.*", "");
        none("imports that rule 4 does not name", text,
            "(?m)^import (?!java\\.util\\.(Arrays|ArrayList|List|Iterator|NoSuchElementException);).*$");
        none("words that are ruled out", text, "\\b(finally|synchronized|assert|package|Thread|\\w+Exact)\\b|::");
        none("of System anything but arraycopy", text, "\\bSystem\\b(?!\\.arraycopy)");
        none("catching what the machine throws too", text,
            "catch \\((?!(IllegalState|IllegalArgument|UnsupportedOperation|NoSuchElement)Exception)\\w+");
        none("throwing what rule 6 does not name", text, "throw (?!new (IllegalState|IllegalArgument|IndexOutOfBounds"
            + "|Arithmetic|UnsupportedOperation|NoSuchElement|Runtime)Exception\\().*");
    }

    private static void none(String what, String text, String regex) {
        check.due(what, found(text, regex), "[]");
    }

    private static Set<String> found(String text, String regex) {
        Set<String> all = new TreeSet<>();
        Matcher matcher = Pattern.compile(regex).matcher(text);
        while (matcher.find()) {
            all.add(matcher.group());
        }
        return all;
    }
}
