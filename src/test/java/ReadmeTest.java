import java.io.IOException;
import java.io.UncheckedIOException;
import java.lang.reflect.InvocationTargetException;
import java.net.URL;
import java.net.URLClassLoader;
import java.nio.file.Files;
import java.nio.file.Path;
import java.util.Comparator;
import java.util.List;
import java.util.Set;
import java.util.TreeSet;
import java.util.regex.Matcher;
import java.util.regex.Pattern;
import java.util.stream.Stream;
import javax.tools.ToolProvider;

/** What README.md says: its calls are made, one behind another, and each answers what stands beside it. */
public final class ReadmeTest {
    private static final Path PAGE = Path.of("README.md"), TESTS = Path.of("src/test/java"), RUN = Path.of(".ci/run");
    private static final Pattern BLOCK = Pattern.compile("(?ms)^```java\n(.*?)^```$");
    private static final Pattern ANSWERED = Pattern.compile("^(raids\\.\\w+\\(.*\\)); +// (-?\\d+|[A-Z]+)\\b.*$");
    private static final int FEWEST_ANSWERS = 30;

    public static void main(String[] args) throws Exception {
        String page = Files.readString(PAGE);
        calls(page);
        testsAreNamed(page);
        Due.is("README.md tells .ci/run", page.contains("\n    .ci/run\n") ? 1 : 0, 1);
        Due.is(".ci/run can be run", Files.isExecutable(RUN) ? 1 : 0, 1);
        Due.end();
    }

    private static void calls(String page) throws Exception {
        StringBuilder lines = new StringBuilder();
        Matcher block = BLOCK.matcher(page);
        while (block.find()) {
            block.group(1).lines().forEach(line -> lines.append(told(line)).append('\n'));
        }
        List<?> answers = answersOf("import java.util.ArrayList;\nimport java.util.List;\n"
            + "public final class ReadmeCalls {\npublic static List<Object[]> made() {\n"
            + "List<Object[]> answers = new ArrayList<>();\n" + lines + "return answers;\n}\n}\n");
        for (Object one : answers) {
            Object[] answer = (Object[]) one;
            Due.is("README.md: " + answer[0], (Long) answer[1], (Long) answer[2]);
        }
        Due.is("README.md tells enough answers", answers.size() >= FEWEST_ANSWERS ? 1 : 0, 1);
    }

    /** A call with its answer beside it is held against it; any other line stays as it is. */
    private static String told(String line) {
        Matcher matcher = ANSWERED.matcher(line);
        if (!matcher.matches()) {
            Due.is("README.md: a comment without an answer: " + line, line.contains("//") ? 1 : 0, 0);
            return line;
        }
        String call = matcher.group(1);
        String due = matcher.group(2);
        boolean named = Character.isLetter(due.charAt(0));
        return "answers.add(new Object[] {\"" + call.replace("\"", "\\\"") + "\", (long) " + call + ", (long) "
            + (named ? "StampRaids." + due : due) + "});";
    }

    private static List<?> answersOf(String source) throws Exception {
        Path folder = Files.createTempDirectory("readme");
        try {
            Path file = Files.writeString(folder.resolve("ReadmeCalls.java"), source);
            int failed = ToolProvider.getSystemJavaCompiler().run(null, System.out, System.out,
                "-cp", System.getProperty("java.class.path"), "-d", folder.toString(), file.toString());
            Due.is("README.md's lines compile", failed, 0);
            return failed == 0 ? made(folder) : List.of();
        } finally {
            remove(folder);
        }
    }

    private static List<?> made(Path folder) throws IOException, ReflectiveOperationException {
        try (URLClassLoader loader = new URLClassLoader(new URL[] {folder.toUri().toURL()})) {
            return (List<?>) loader.loadClass("ReadmeCalls").getMethod("made").invoke(null);
        } catch (InvocationTargetException thrown) {
            throw new IllegalStateException("README.md's lines throw", thrown.getCause());
        }
    }

    private static void remove(Path folder) throws IOException {
        try (Stream<Path> all = Files.walk(folder)) {
            all.sorted(Comparator.reverseOrder()).forEach(ReadmeTest::removeOne);
        }
    }

    private static void removeOne(Path one) {
        try {
            Files.delete(one);
        } catch (IOException failed) {
            throw new UncheckedIOException(failed);
        }
    }

    private static void testsAreNamed(String page) throws IOException {
        Set<String> named = new TreeSet<>();
        Matcher name = Pattern.compile("`(\\w+Test)`").matcher(page);
        while (name.find()) {
            named.add(name.group(1));
        }
        Set<String> there = new TreeSet<>();
        try (Stream<Path> files = Files.list(TESTS)) {
            files.map(file -> file.getFileName().toString()).filter(file -> file.endsWith("Test.java"))
                .forEach(file -> there.add(file.substring(0, file.length() - ".java".length())));
        }
        if (!named.equals(there)) {
            System.out.println("README.md names " + named + ", there are " + there);
        }
        Due.is("README.md names the tests that there are", named.equals(there) ? 1 : 0, 1);
    }
}
