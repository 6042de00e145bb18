import java.io.IOException;
import java.lang.reflect.Method;
import java.lang.reflect.Modifier;
import java.net.URL;
import java.net.URLClassLoader;
import java.nio.file.Files;
import java.nio.file.Path;
import java.util.ArrayList;
import java.util.List;
import java.util.regex.Matcher;
import java.util.regex.Pattern;
import java.util.stream.Stream;
import javax.tools.ToolProvider;

/** What README.md shows of the class's use is so when it is run; no method and no test is left out of it. */
public final class ReadmeTest {
    private static final Path README = Path.of("README.md");
    private static final Path TESTS = Path.of("src/test/java");
    private static final Pattern BLOCK = Pattern.compile("^```java\n(.*?)^```$", Pattern.MULTILINE | Pattern.DOTALL);
    private static final Pattern ANSWERED = Pattern.compile("^x\\.(\\w+)(\\(.*\\)); +// (-?\\d+): .+$");
    private static final Pattern TEST_NAME = Pattern.compile("`(\\w+Test)`");
    private static final Checks CHECKS = new Checks("ReadmeTest");

    public static void main(String[] args) throws IOException, ReflectiveOperationException {
        CHECKS.promise(0, "README.md");
        String readme = Files.readString(README);
        List<String> example = exampleOf(readme);
        everyCallHasAnAnswer(example);
        everyMethodIsShown(example);
        everyTestIsNamed(readme);
        Path room = Files.createTempDirectory("readme");
        try {
            answersAreAsShown(example, room);
        } finally {
            remove(room);
        }
        CHECKS.end();
    }

    private static List<String> exampleOf(String readme) {
        List<String> lines = new ArrayList<>();
        Matcher m = BLOCK.matcher(readme);
        while (m.find()) {
            lines.addAll(m.group(1).lines().toList());
        }
        return lines;
    }

    /** A row whose answer is not told in the form that is looked for would not be looked at. */
    private static void everyCallHasAnAnswer(List<String> example) {
        for (String line : example) {
            if (line.startsWith("x.")) {
                CHECKS.due("has an answer: " + line, ANSWERED.matcher(line).matches() ? 1 : 0, 1);
            }
        }
    }

    private static void everyMethodIsShown(List<String> example) {
        for (Method method : TugOfWar.class.getDeclaredMethods()) {
            if (Modifier.isPublic(method.getModifiers())) {
                long rows = example.stream().map(ANSWERED::matcher)
                    .filter(m -> m.matches() && m.group(1).equals(method.getName())).count();
                CHECKS.due("shown with its answer: " + method.getName(), rows > 0 ? 1 : 0, 1);
            }
        }
    }

    private static void everyTestIsNamed(String readme) throws IOException {
        List<String> named = new ArrayList<>();
        Matcher m = TEST_NAME.matcher(readme);
        while (m.find()) {
            named.add(m.group(1));
            CHECKS.due("there is a test " + m.group(1), Files.exists(TESTS.resolve(m.group(1) + ".java")) ? 1 : 0, 1);
        }
        try (Stream<Path> files = Files.list(TESTS)) {
            for (Path file : files.toList()) {
                String name = file.getFileName().toString().replace(".java", "");
                CHECKS.due("named: " + name, !name.endsWith("Test") || named.contains(name) ? 1 : 0, 1);
            }
        }
    }

    /** The example as a class of its own; where a row shows an answer, the call's own answer is kept. */
    private static String programOf(List<String> example) {
        StringBuilder s = new StringBuilder("public final class Example {\npublic static java.util.List<Long> run() {\n");
        s.append("java.util.List<Long> answers = new java.util.ArrayList<>();\n");
        for (String line : example) {
            Matcher m = ANSWERED.matcher(line);
            if (m.matches()) {
                s.append("answers.add((long) x.").append(m.group(1)).append(m.group(2)).append(");\n");
            } else {
                s.append(line).append('\n');
            }
        }
        return s.append("return answers;\n}\n}\n").toString();
    }

    private static void answersAreAsShown(List<String> example, Path room)
            throws IOException, ReflectiveOperationException {
        Path source = Files.writeString(room.resolve("Example.java"), programOf(example));
        String ownClasses = System.getProperty("java.class.path");
        int code = ToolProvider.getSystemJavaCompiler().run(null, null, null,
            "-cp", ownClasses, "-d", room.toString(), source.toString());
        CHECKS.due("the example compiles", code, 0);
        if (code == 0) {
            try (URLClassLoader loader = new URLClassLoader(new URL[] {room.toUri().toURL()})) {
                List<?> answers = (List<?>) loader.loadClass("Example").getMethod("run").invoke(null);
                compare(example, answers);
            }
        }
    }

    private static void compare(List<String> example, List<?> answers) {
        int next = 0;
        for (String line : example) {
            Matcher m = ANSWERED.matcher(line);
            if (m.matches()) {
                CHECKS.due(m.group(1) + m.group(2), (Long) answers.get(next), Long.parseLong(m.group(3)));
                next++;
            }
        }
    }

    private static void remove(Path room) throws IOException {
        try (Stream<Path> files = Files.list(room)) {
            for (Path file : files.toList()) {
                Files.delete(file);
            }
        }
        Files.delete(room);
    }
}
