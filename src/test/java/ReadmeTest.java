import java.io.IOException;
import java.lang.reflect.Method;
import java.lang.reflect.Modifier;
import java.net.URL;
import java.net.URLClassLoader;
import java.nio.charset.StandardCharsets;
import java.nio.file.Files;
import java.nio.file.Path;
import java.util.ArrayList;
import java.util.List;
import java.util.function.ObjIntConsumer;
import java.util.regex.Matcher;
import java.util.regex.Pattern;
import javax.tools.ToolProvider;

/**
 * The examples of README.md, as they stand there: they compile, and each row answers what README.md
 * says behind it. A block that begins with 'static' is a function, all others are one run.
 */
public final class ReadmeTest {
    private static final Path README = Path.of("README.md"), BUILD = Path.of("build", "readme");
    private static final Pattern BLOCK = Pattern.compile("(?ms)^```java\n(.*?)^```$");
    private static final Pattern ROW = Pattern.compile("(x\\.(\\w+)\\(.*\\)); +// (-?\\d+|[A-Z]+)(:.*)?");
    private static final int MAX_CALLS = 512;

    private final Checks checks = new Checks();
    private final StringBuilder functions = new StringBuilder();
    private final StringBuilder run = new StringBuilder();
    private final List<String> calls = new ArrayList<>();
    private final List<Integer> wanted = new ArrayList<>();
    private int fedByHand;

    public static void main(String[] args) throws Exception {
        ReadmeTest test = new ReadmeTest();
        test.readBlocks();
        test.showsEveryCall();
        test.play(test.compiled());
        test.checks.finish("ReadmeTest");
    }

    private void readBlocks() throws IOException, ReflectiveOperationException {
        Matcher block = BLOCK.matcher(Files.readString(README, StandardCharsets.UTF_8));
        while (block.find()) {
            if (block.group(1).startsWith("static ")) {
                functions.append(block.group(1));
            } else {
                readRows(block.group(1));
            }
        }
    }

    private void readRows(String block) throws ReflectiveOperationException {
        for (String line : block.split("\n")) {
            Matcher row = ROW.matcher(line);
            if (row.matches()) {
                calls.add(row.group(1));
                wanted.add(valueOf(row.group(3)));
                run.append("answers.accept(\"").append(row.group(1)).append("\", ").append(row.group(1)).append(");\n");
            } else {
                checks.that("a row without an answer only makes or feeds: " + line,
                    line.startsWith("FirstAwake x = ") || line.startsWith("feedText(x, "));
                fedByHand += line.startsWith("feedText(x, ") ? (line.length() + 7) / 8 : 0;
                run.append(line).append('\n');
            }
        }
    }

    private static int valueOf(String answer) throws ReflectiveOperationException {
        boolean named = Character.isUpperCase(answer.charAt(0));
        return named ? FirstAwake.class.getField(answer).getInt(null) : Integer.parseInt(answer);
    }

    private void showsEveryCall() {
        String all = functions.toString() + run;
        for (Method m : FirstAwake.class.getDeclaredMethods()) {
            if (Modifier.isPublic(m.getModifiers())) {
                checks.that("README.md shows " + m.getName(), all.contains("x." + m.getName() + "("));
            }
        }
        checks.that("the run keeps to 512 calls", calls.size() + fedByHand <= MAX_CALLS);
    }

    /** The run's only method; it hands each answer out, since it is loaded apart from the tests. */
    private Method compiled() throws Exception {
        Path source = BUILD.resolve("ReadmeRun.java");
        Files.createDirectories(BUILD);
        Files.writeString(source, "public final class ReadmeRun {\n" + functions
            + "public static void play(java.util.function.ObjIntConsumer<String> answers) {\n" + run + "}\n}\n");
        int exit = ToolProvider.getSystemJavaCompiler().run(null, null, null,
            "-cp", System.getProperty("java.class.path"), "-d", BUILD.toString(), source.toString());
        checks.due("the examples compile", exit, 0);
        if (exit != 0) {
            checks.finish("ReadmeTest");
        }
        URLClassLoader loader = new URLClassLoader(new URL[] {BUILD.toUri().toURL()});
        return loader.loadClass("ReadmeRun").getMethod("play", ObjIntConsumer.class);
    }

    private void play(Method method) throws ReflectiveOperationException {
        List<Integer> got = new ArrayList<>();
        ObjIntConsumer<String> answers = (call, answer) -> {
            checks.due("README.md, row " + got.size() + ": " + call, answer, wanted.get(got.size()));
            got.add(answer);
        };
        method.invoke(null, answers);
        checks.due("rows played", got.size(), calls.size());
    }
}
