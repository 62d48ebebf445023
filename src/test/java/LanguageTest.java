import java.io.IOException;
import java.lang.reflect.Constructor;
import java.lang.reflect.Field;
import java.lang.reflect.Method;
import java.lang.reflect.Modifier;
import java.nio.charset.StandardCharsets;
import java.nio.file.Files;
import java.nio.file.Path;
import java.util.Arrays;
import java.util.HashSet;
import java.util.List;
import java.util.Map;
import java.util.Set;
import java.util.TreeSet;
import java.util.regex.Matcher;
import java.util.regex.Pattern;

/** The rules of LANGUAGE.md that a program can look at, and the document's face. */
public final class LanguageTest {
    private static final Path SOURCE = Path.of("src/main/java/FirstAwake.java");
    private static final int MAX_LINES = 60, MAX_PARAMETERS = 7, MAX_CLASSES = 12, MAX_FIELDS = 20;
    private static final List<String> FACE = List.of("feed(int,long)", "valley()", "fault()", "told(int)",
        "house(int,int)", "sleeper(int,int)", "shift(int,int)", "noise(int,int,int)", "hush()", "law(int)", "dawn(int)",
        "ruler(int,int)", "odds(int)", "together(int)", "best(int,int)", "rests(int)", "loud(int,int)", "work(int,int)",
        "likely(int,int)", "tell(int,int)", "forget()", "lies()", "fits(int,int)", "seed(int)", "keep(int)", "goBack(int)");
    private static final Map<String, Integer> CONSTANTS = Map.of("NONE", -1, "UNKNOWN", -1000000001,
        "OUTSIDE", -1000000002, "NOT", -1000000003, "FULL", -1000000004);
    private static final String FORBIDDEN = "\\b(throw|throws|try|catch|finally|synchronized|assert|instanceof|native|volatile"
        + "|double|float|Math\\.\\w+Exact|System\\.(?!arraycopy)\\w+|Thread|Random|Object|hashCode|toString)\\b|->|::";

    private final Checks checks = new Checks();
    private final Set<String> publicNames = new HashSet<>();

    public static void main(String[] args) throws IOException, ReflectiveOperationException {
        LanguageTest test = new LanguageTest();
        test.face();
        test.classesInside();
        test.source();
        test.checks.finish("LanguageTest");
    }

    private static String signature(Method m) {
        StringBuilder text = new StringBuilder(m.getName()).append('(');
        for (Class<?> type : m.getParameterTypes()) {
            text.append(text.charAt(text.length() - 1) == '(' ? "" : ",").append(type.getName());
        }
        return text.append(')').toString();
    }

    private void face() throws ReflectiveOperationException {
        Class<?> c = FirstAwake.class;
        checks.that("public and final", Modifier.isPublic(c.getModifiers()) && Modifier.isFinal(c.getModifiers()));
        Set<String> open = new TreeSet<>();
        for (Method m : c.getDeclaredMethods()) {
            if (Modifier.isPublic(m.getModifiers())) {
                open.add(signature(m));
                publicNames.add(m.getName());
                checks.that(m + " answers an int of an object", m.getReturnType() == int.class && !Modifier.isStatic(m.getModifiers()));
            } else {
                checks.that(m + " is private", Modifier.isPrivate(m.getModifiers()));
            }
        }
        checks.that("the face is " + open, open.equals(new TreeSet<>(FACE)));
        for (Field f : c.getDeclaredFields()) {
            boolean constant = CONSTANTS.containsKey(f.getName());
            checks.that(f + " has its place", constant ? Modifier.isPublic(f.getModifiers()) : Modifier.isPrivate(f.getModifiers()));
        }
        constants();
        Constructor<?>[] made = c.getDeclaredConstructors();
        checks.that("one public constructor", made.length == 1 && Modifier.isPublic(made[0].getModifiers()) && made[0].getParameterCount() == 0);
    }

    private void constants() throws ReflectiveOperationException {
        for (Map.Entry<String, Integer> constant : CONSTANTS.entrySet()) {
            Field f = FirstAwake.class.getField(constant.getKey());
            checks.that(f + " is a constant int", f.getType() == int.class && Modifier.isStatic(f.getModifiers()) && Modifier.isFinal(f.getModifiers()));
            checks.due(f.getName(), f.getInt(null), constant.getValue());
        }
    }

    private void classesInside() {
        Class<?>[] inside = FirstAwake.class.getDeclaredClasses();
        checks.that("few classes", inside.length < MAX_CLASSES);
        for (Class<?> c : inside) {
            checks.that(c + " is static and not public", Modifier.isStatic(c.getModifiers()) && !Modifier.isPublic(c.getModifiers()));
            checks.that(c + " has few fields", Arrays.stream(c.getDeclaredFields()).filter(f -> !Modifier.isStatic(f.getModifiers())).count() <= MAX_FIELDS);
            for (Method m : c.getDeclaredMethods()) {
                checks.that(m + " has no name of the face", !publicNames.contains(m.getName()));
                checks.that(m + " has few parameters", m.getParameterCount() <= MAX_PARAMETERS);
            }
            for (Field f : c.getDeclaredFields()) {
                checks.that(f + " is final, if static", !Modifier.isStatic(f.getModifiers()) || Modifier.isFinal(f.getModifiers()));
            }
        }
        for (Method m : FirstAwake.class.getDeclaredMethods()) {
            checks.that(m + " private, with a name of its own", Modifier.isPublic(m.getModifiers()) || !publicNames.contains(m.getName()));
        }
    }

    private void source() throws IOException {
        String text = Files.readString(SOURCE, StandardCharsets.ISO_8859_1);
        checks.that("all signs are 1 to 127", text.chars().allMatch(ch -> ch >= 1 && ch <= 127));
        String code = text.replaceAll("(?s)/\\*.*?\\*/", "").replaceAll("//[^\n]*", "").replaceAll("\"[^\"\n]*\"", "\"\"");
        Matcher bad = Pattern.compile(FORBIDDEN).matcher(code);
        while (bad.find()) {
            checks.that("no '" + bad.group() + "'", false);
        }
        Matcher imports = Pattern.compile("import ([^;]+);").matcher(code);
        while (imports.find()) {
            checks.that("import " + imports.group(1), imports.group(1).equals("java.util.Arrays"));
        }
        Matcher made = Pattern.compile("(?m)^.*\\bnew\\b.*$").matcher(code);
        while (made.find()) {
            checks.that("rows are made in constructors alone: " + made.group().trim(),
                made.group().matches(" +\\w+ = new \\w+(\\[\\w+\\]|\\(\\w*\\));"));
        }
        methodLengths(text);
    }

    /** Methods begin at four or eight blanks and end with a brace at the same place. */
    private void methodLengths(String text) {
        String[] lines = text.split("\n");
        for (int i = 0; i < lines.length; i++) {
            Matcher head = Pattern.compile("( {4}| {8})[a-zA-Z].*\\) \\{").matcher(lines[i]);
            if (!head.matches()) {
                continue;
            }
            int end = i;
            while (end < lines.length && !lines[end].equals(head.group(1) + "}")) {
                end++;
            }
            checks.that("short: " + lines[i].trim(), end - i < MAX_LINES);
        }
    }
}
