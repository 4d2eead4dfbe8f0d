import java.io.IOException;
import java.lang.reflect.Method;
import java.lang.reflect.Modifier;
import java.net.URL;
import java.net.URLClassLoader;
import java.nio.file.Files;
import java.nio.file.Path;
import java.util.HashMap;
import java.util.List;
import java.util.Map;
import java.util.regex.Matcher;
import java.util.regex.Pattern;
import java.util.stream.Collectors;
import java.util.stream.Stream;

/** README.md: its example answers what it says, and it names every call and every test. */
public final class ReadmeTest {
    private static final Pattern TOLD_ANSWER =
            Pattern.compile("(?m)^(?:int|boolean|double) (\\w+) = .*; *// ([-\\w.]+).*$");

    public static void main(String[] args) throws Exception {
        String page = Files.readString(Path.of("README.md"));
        example(page);
        calls(page);
        tests(page);
        Check.end();
    }

    private static void example(String page) throws Exception {
        Matcher block = Pattern.compile("(?s)```java\n(.*?)```").matcher(page);
        Check.holds("README.md has an example", block.find());
        Matcher told = TOLD_ANSWER.matcher(block.group(1));
        Map<String, Object> answers = answersOf(told.replaceAll("$0\nanswers.put(\"$1\", $1);"));
        told.reset();
        while (told.find()) {
            Check.same("README.md: " + told.group(1), String.valueOf(answers.get(told.group(1))), told.group(2));
        }
        Check.holds("the example tells its answers", answers.size() >= 10);
    }

    /** Compiles statements that put their answers into a map, and runs them. */
    private static Map<String, Object> answersOf(String statements) throws Exception {
        Map<String, Object> answers = new HashMap<>();
        Path directory = Files.createTempDirectory("readme");
        Path file = directory.resolve("ReadmeExample.java");
        try {
            Files.writeString(file, "public final class ReadmeExample {\n"
                    + "public static void run(java.util.Map<String, Object> answers) {\n" + statements + "\n}\n}\n");
            Process javac = new ProcessBuilder("javac", "-cp", System.getProperty("java.class.path"),
                    "-d", directory.toString(), file.toString()).inheritIO().start();
            Check.same("compiling the example", javac.waitFor(), 0);
            try (URLClassLoader loader = new URLClassLoader(new URL[] {directory.toUri().toURL()})) {
                loader.loadClass("ReadmeExample").getMethod("run", Map.class).invoke(null, answers);
            }
        } finally {
            empty(directory);
        }
        return answers;
    }

    private static void empty(Path directory) throws IOException {
        for (Path file : list(directory)) {
            Files.delete(file);
        }
        Files.delete(directory);
    }

    private static List<Path> list(Path directory) throws IOException {
        try (Stream<Path> files = Files.list(directory)) {
            return files.collect(Collectors.toList());
        }
    }

    private static void calls(String page) {
        for (Method call : RefreshTrader.class.getDeclaredMethods()) {
            if (Modifier.isPublic(call.getModifiers())) {
                Check.holds("README.md names " + call.getName(), page.contains("`" + call.getName() + "`"));
            }
        }
    }

    private static void tests(String page) throws IOException {
        for (Path file : list(Path.of("src/test/java"))) {
            String name = file.getFileName().toString();
            if (name.endsWith("Test.java")) {
                String test = name.substring(0, name.length() - ".java".length());
                Check.holds("README.md names " + test, page.contains("| `" + test + "` |"));
            }
        }
    }
}
