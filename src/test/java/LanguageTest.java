import java.io.IOException;
import java.lang.reflect.Constructor;
import java.lang.reflect.Field;
import java.lang.reflect.Method;
import java.lang.reflect.Modifier;
import java.nio.file.Files;
import java.nio.file.Path;
import java.util.Arrays;
import java.util.Set;
import java.util.TreeSet;
import java.util.regex.Matcher;
import java.util.regex.Pattern;
import java.util.stream.Collectors;
import java.util.stream.Stream;

/** Looks at what LANGUAGE.md asks of the program's file, as far as it can be seen without reading it. */
final class LanguageTest {
    private static final String SOURCE = "src/main/java/CraneGates.java";
    private static final String[] FORBIDDEN = {"\\bthrows?\\b", "\\btry\\b", "\\bcatch\\b", "\\bsynchronized\\b",
        "\\bassert\\b", "->", "::", "\\bimport\\b", "\\bpackage\\b", "\\w+Exact\\b", "\\bNaN\\b", "\\bvar\\b",
        "\\bSystem\\.(?!arraycopy)", "\\bThread\\b", "\\bRandom\\b", "\\bgetClass\\b", "\"[^\"]*\"\\s*\\+", "\\+\\s*\"",
        "\\bequals\\b", "\\bhashCode\\b", "\\btoString\\b", "\\bgoto\\b", "\\bnative\\b", "@"};
    private static final Set<String> FACE = new TreeSet<>(Set.of("gate(II)", "order(II)", "cancel(I)", "inflow(I)",
        "fill(I)", "set(II)", "pass(I)"));

    static {
        FACE.addAll(Set.of("gateOf(II)", "craneOf(I)", "orderAt(I)", "markAt(I)", "would(II)", "minutesUntil(II)",
            "minutesToRest()", "bestRule(I)", "leastFlood(I)"));
        FACE.addAll(Set.of("count(I)", "undo()", "type(I)", "clearText()", "fault(I)", "play()"));
    }

    private static final Check check = new Check("LanguageTest");

    private LanguageTest() { }

    public static void main(String[] args) throws IOException {
        words();
        face();
        classesInside();
        check.end();
    }

    private static void words() throws IOException {
        String source = Files.readString(Path.of(SOURCE));
        check.that("only signs 1 to 127", source.chars().allMatch(c -> c >= 1 && c <= 127));
        String code = source.replaceAll("(?s)/\\*.*?\\*/", " ").replaceAll("//[^\\n]*", " ");
        for (String word : FORBIDDEN) {
            Matcher m = Pattern.compile(word).matcher(code);
            check.that("nowhere " + word, !m.find());
        }
    }

    private static void face() {
        Class<?> face = CraneGates.class;
        check.that("public and final", Modifier.isPublic(face.getModifiers()) && Modifier.isFinal(face.getModifiers()));
        Constructor<?>[] made = face.getDeclaredConstructors();
        check.that("one constructor", made.length == 1 && Modifier.isPublic(made[0].getModifiers())
            && made[0].getParameterCount() == 0);
        Set<String> open = new TreeSet<>();
        for (Method m : face.getDeclaredMethods()) {
            if (!Modifier.isPrivate(m.getModifiers()) && !m.isSynthetic()) {
                check.that("public: " + m.getName(), Modifier.isPublic(m.getModifiers()) && m.getReturnType() == int.class);
                open.add(m.getName() + "(" + "I".repeat(m.getParameterCount()) + ")");
            }
        }
        check.that("the calls of the face, no other: " + open, open.equals(FACE));
        Set<String> constants = new TreeSet<>();
        for (Field f : face.getDeclaredFields()) {
            if (!Modifier.isPrivate(f.getModifiers())) {
                check.that("a public constant: " + f.getName(), Modifier.isPublic(f.getModifiers())
                    && Modifier.isStatic(f.getModifiers()) && f.getType() == int.class);
                constants.add(f.getName());
            }
        }
        check.that("the constants of the face, no other: " + constants, constants.equals(
            Set.of("INVALID_ARGUMENT", "NOT_POSSIBLE", "LIMIT_REACHED", "NOT_FOUND")));
    }

    private static void classesInside() {
        Class<?>[] inside = CraneGates.class.getDeclaredClasses();
        check.that("at most twelve classes", inside.length <= 11);
        Set<String> calls = FACE.stream().map(c -> c.substring(0, c.indexOf('('))).collect(Collectors.toSet());
        Stream.concat(Stream.of(CraneGates.class), Arrays.stream(inside)).forEach(c -> {
            check.that("no class inside a class inside: " + c, c == CraneGates.class
                || Modifier.isStatic(c.getModifiers()) && c.getDeclaredClasses().length == 0);
            long fields = Arrays.stream(c.getDeclaredFields()).filter(f -> !Modifier.isStatic(f.getModifiers())).count();
            check.that("at most twenty fields: " + c, fields <= 20);
            for (Field f : c.getDeclaredFields()) {
                check.that("static is final: " + f, !Modifier.isStatic(f.getModifiers())
                    || Modifier.isFinal(f.getModifiers()));
            }
            for (Method m : c.getDeclaredMethods()) {
                check.that("at most seven parameters: " + m, m.getParameterCount() <= 7);
                check.that("no name of a public one: " + m, Modifier.isPublic(m.getModifiers())
                    || !calls.contains(m.getName()));
            }
        });
    }
}
