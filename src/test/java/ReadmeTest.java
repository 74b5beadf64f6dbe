import java.io.File;
import java.io.IOException;
import java.lang.reflect.Method;
import java.lang.reflect.Modifier;
import java.net.URL;
import java.net.URLClassLoader;
import java.nio.file.Files;
import java.nio.file.Path;
import java.util.ArrayList;
import java.util.List;
import java.util.regex.Matcher;
import java.util.regex.Pattern;
import javax.tools.ToolProvider;

/** What README.md says is so: its examples are compiled and run, and what it names is there. */
public final class ReadmeTest {
    private static final Pattern JAVA = Pattern.compile("```java\n(.*?)```", Pattern.DOTALL);
    private static final Pattern ANSWERED = Pattern.compile("(house\\..*\\)); +// (-?\\d+|true|false): .*");

    private static final List<String> calls = new ArrayList<>();
    private static final List<String> due = new ArrayList<>();

    public static void main(String[] args) throws Exception {
        String readme = Files.readString(Path.of("README.md"));
        examples(readme);
        everyCallIsNamed(readme);
        everyClassInsideIsNamed(readme);
        everyTestIsNamed(readme);
        everyTestNamedIsThere(readme);
        Check.finish("ReadmeTest");
    }

    private static void examples(String readme) throws Exception {
        List<?> answers = answersOf(sourceOf(readme));
        Check.due("answers that the examples tell", calls.size() >= 30, true);
        Check.due("answers of the examples", answers.size(), calls.size());
        for (int i = 0; i < calls.size() && i < answers.size(); i++) {
            Check.due("README.md: " + calls.get(i), String.valueOf(answers.get(i)), due.get(i));
        }
    }

    /** A class with the methods of the README, and one that runs its other examples, each in a block of its own. */
    private static String sourceOf(String readme) {
        StringBuilder methods = new StringBuilder();
        StringBuilder run = new StringBuilder();
        Matcher blocks = JAVA.matcher(readme);
        while (blocks.find()) {
            if (blocks.group(1).startsWith("static ")) {
                methods.append(blocks.group(1));
            } else {
                run.append("{\n").append(keepingAnswers(blocks.group(1))).append("}\n");
            }
        }
        return "public final class ReadmeExample {\n" + methods
            + "public static java.util.List<Object> run() {\n"
            + "java.util.List<Object> answers = new java.util.ArrayList<>();\n" + run + "return answers;\n}\n}\n";
    }

    private static String keepingAnswers(String block) {
        StringBuilder all = new StringBuilder();
        for (String line : block.split("\n")) {
            Matcher answered = ANSWERED.matcher(line);
            if (answered.matches()) {
                calls.add(answered.group(1));
                due.add(answered.group(2));
                all.append("answers.add(").append(answered.group(1)).append(");\n");
            } else {
                Check.due("no answer told: " + line, line.startsWith("house."), false);
                all.append(line).append('\n');
            }
        }
        return all.toString();
    }

    private static List<?> answersOf(String source) throws Exception {
        Path built = Files.createTempDirectory("readme");
        Path file = built.resolve("ReadmeExample.java");
        Files.writeString(file, source);
        int failed = ToolProvider.getSystemJavaCompiler().run(null, null, null, "-cp",
            System.getProperty("java.class.path"), "-d", built.toString(), file.toString());
        Check.due("compiling the examples", failed, 0);
        List<?> answers = List.of();
        if (failed == 0) {
            try (URLClassLoader loader = new URLClassLoader(new URL[] {built.toUri().toURL()})) {
                answers = (List<?>) loader.loadClass("ReadmeExample").getMethod("run").invoke(null);
            }
        }
        forget(built);
        return answers;
    }

    private static void forget(Path directory) throws IOException {
        for (File file : directory.toFile().listFiles()) {
            Files.delete(file.toPath());
        }
        Files.delete(directory);
    }

    private static void everyCallIsNamed(String readme) {
        for (Method method : TerminalHouse.class.getDeclaredMethods()) {
            if (Modifier.isPublic(method.getModifiers())) {
                Check.due(method.getName() + " in README.md", readme.contains("`" + method.getName() + "`"), true);
            }
        }
    }

    private static void everyClassInsideIsNamed(String readme) {
        for (Class<?> inside : TerminalHouse.class.getDeclaredClasses()) {
            String name = inside.getSimpleName();
            Check.due(name + " in README.md", readme.contains("`" + name + "`"), true);
        }
    }

    private static void everyTestIsNamed(String readme) {
        int tests = 0;
        for (String name : new File("src/test/java").list()) {
            if (name.endsWith("Test.java")) {
                tests++;
                String test = name.substring(0, name.length() - ".java".length());
                Check.due(test + " in README.md", readme.contains("| `" + test + "` |"), true);
            }
        }
        Check.due("tests", tests > 20, true);
    }

    private static void everyTestNamedIsThere(String readme) {
        Matcher named = Pattern.compile("`(\\w+Test)`").matcher(readme);
        while (named.find()) {
            File file = new File("src/test/java", named.group(1) + ".java");
            Check.due(file + " is there", file.isFile(), true);
        }
    }
}
