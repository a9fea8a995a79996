import java.io.IOException;
import java.lang.reflect.InvocationTargetException;
import java.net.URL;
import java.net.URLClassLoader;
import java.nio.file.Files;
import java.nio.file.Path;
import java.util.ArrayList;
import java.util.Comparator;
import java.util.List;
import java.util.TreeSet;
import java.util.regex.Matcher;
import java.util.regex.Pattern;
import java.util.stream.Stream;
import javax.tools.ToolProvider;

/** README.md: what it says of using the class is what the class does, and its command runs the tests. */
final class ReadmeTest {
    private static final Pattern ANSWERS = Pattern.compile("(x\\..*); *// answers ([^ :,]+).*");
    private static final Pattern THROWS = Pattern.compile("(x\\..*); *// throws (\\w+)");
    private static final int LEAST_TOLD = 15;

    public static void main(String[] args) throws IOException, ReflectiveOperationException {
        Check check = new Check();
        String page = Files.readString(Path.of("README.md"));
        lookAtExample(check, page);
        lookAtCommand(check, page);
        lookAtTable(check, page);
        check.close();
    }

    private static void lookAtExample(Check check, String page) throws IOException, ReflectiveOperationException {
        String example = between(page, "```java\n", "```");
        List<String> calls = new ArrayList<>();
        List<String> told = new ArrayList<>();
        String body = withAnswersKept(example, calls, told);
        check.due("lines that tell an answer", calls.size(), count(example, "// (answers|throws) "));
        check.isTrue("the example tells of enough calls", calls.size() >= LEAST_TOLD);
        List<String> answers = answersOf(body);
        check.due("answers", answers.size(), told.size());
        for (int i = 0; i < Math.min(answers.size(), told.size()); i++) {
            check.due("the example of README.md: " + calls.get(i), answers.get(i), told.get(i));
        }
    }

    /** The example as it stands, but that the answers which it tells are added to a list. */
    private static String withAnswersKept(String example, List<String> calls, List<String> told) {
        StringBuilder body = new StringBuilder();
        for (String line : example.split("\n")) {
            Matcher answers = ANSWERS.matcher(line.strip());
            Matcher refuses = THROWS.matcher(line.strip());
            if (answers.matches()) {
                calls.add(answers.group(1));
                told.add(answers.group(2));
                body.append("answers.add(String.valueOf(").append(answers.group(1)).append("));\n");
            } else if (refuses.matches()) {
                calls.add(refuses.group(1));
                told.add("throws " + refuses.group(2));
                body.append("try { ").append(refuses.group(1)).append("; answers.add(\"no exception\"); }\n")
                        .append("catch (RuntimeException e) {\n")
                        .append("answers.add(\"throws \" + e.getClass().getSimpleName()); }\n");
            } else {
                body.append(line).append('\n');
            }
        }
        return body.toString();
    }

    private static List<String> answersOf(String body) throws IOException, ReflectiveOperationException {
        Path place = Files.createTempDirectory("readme");
        try {
            Path file = place.resolve("ReadmeExample.java");
            Files.writeString(file, "public final class ReadmeExample {\n"
                    + "public static void play(java.util.List<String> answers) {\n" + body + "}\n}\n");
            int exit = ToolProvider.getSystemJavaCompiler().run(null, null, null,
                    "-cp", System.getProperty("java.class.path"), "-d", place.toString(), file.toString());
            List<String> answers = new ArrayList<>();
            if (exit == 0) {
                play(place, answers);
            }
            return answers;
        } finally {
            remove(place);
        }
    }

    private static void play(Path place, List<String> answers) throws IOException, ReflectiveOperationException {
        try (URLClassLoader loader = new URLClassLoader(new URL[] {place.toUri().toURL()})) {
            loader.loadClass("ReadmeExample").getMethod("play", List.class).invoke(null, answers);
        } catch (InvocationTargetException e) {
            answers.add("the example threw " + e.getCause());
        }
    }

    private static void remove(Path place) throws IOException {
        try (Stream<Path> files = Files.walk(place)) {
            for (Path file : files.sorted(Comparator.reverseOrder()).toList()) {
                Files.delete(file);
            }
        }
    }

    private static void lookAtCommand(Check check, String page) throws IOException {
        String command = between(page, "## How to run its tests\n\n    ", "\n");
        check.due("the command", command, ".ci/run");
        check.isTrue("the command can be run", Files.isExecutable(Path.of(command)));
        String script = Files.readString(Path.of(command));
        check.isTrue("it runs each test of the project", script.contains("src/test/java/*Test.java"));
        check.isTrue("it runs each shared test", script.contains("/tests/*.java"));
    }

    /** Each test of the project has its line in the table, and each line its test. */
    private static void lookAtTable(Check check, String page) throws IOException {
        TreeSet<String> inTable = new TreeSet<>();
        Matcher lines = Pattern.compile("(?m)^\\| `(\\w+)` \\| \\S.* \\|$").matcher(page);
        while (lines.find()) {
            inTable.add(lines.group(1) + ".java");
        }
        TreeSet<String> there = new TreeSet<>();
        try (Stream<Path> files = Files.list(Path.of("src/test/java"))) {
            files.map(file -> file.getFileName().toString()).filter(name -> name.endsWith("Test.java"))
                    .forEach(there::add);
        }
        check.due("the table of tests", inTable.toString(), there.toString());
    }

    private static String between(String text, String before, String behind) {
        int from = text.indexOf(before);
        int to = from < 0 ? -1 : text.indexOf(behind, from + before.length());
        return to < 0 ? "" : text.substring(from + before.length(), to);
    }

    private static int count(String text, String pattern) {
        Matcher matcher = Pattern.compile(pattern).matcher(text);
        int found = 0;
        while (matcher.find()) {
            found++;
        }
        return found;
    }
}
