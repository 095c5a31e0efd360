import java.io.IOException;
import java.lang.reflect.Field;
import java.lang.reflect.Method;
import java.lang.reflect.Modifier;
import java.nio.file.Files;
import java.nio.file.Path;
import java.util.HashSet;
import java.util.List;
import java.util.Set;
import java.util.regex.Matcher;
import java.util.regex.Pattern;

/** What LANGUAGE.md rules out, as far as words tell it; its argument is the path of the class. */
public final class LanguageTest {
    private static final String PROGRAM = "src/main/java/StampRaids.java";
    private static final String[] RULED_OUT = {
        "\\b(throw|throws|try|catch|finally|synchronized|assert|goto|volatile|transient|native)\\b",
        "->|::",
        "\\b\\w+Exact\\b",
        "\\b(System\\.(?!arraycopy\\b)\\w+|Thread|Random|Object|HashMap|Map|Set|LinkedList|Objects|Class)\\b",
        "\\b(equals|hashCode|toString|getClass)\\s*\\([^)]*\\)\\s*\\{",
        "\"\\s*\\+|\\+\\s*\"",
        "^package\\b",
    };
    private static final int MOST_LINES = 60, MOST_CLASSES = 12, MOST_FIELDS = 20;

    public static void main(String[] args) throws IOException {
        Path program = Path.of(args.length > 0 ? args[0] : PROGRAM);
        String code = Files.readString(program)
            .replaceAll("(?s)/\\*.*?\\*/", "").replaceAll("//[^\n]*", "");
        for (String one : RULED_OUT) {
            Matcher matcher = Pattern.compile(one, Pattern.MULTILINE).matcher(code);
            Due.is("places of " + one + (matcher.find() ? ", as " + matcher.group() : ""),
                matcher.reset().results().count(), 0);
        }
        imports(code);
        methodLengths(code);
        classes();
        Due.end();
    }

    private static void imports(String code) {
        Set<String> known = Set.of("java.util.Arrays", "java.util.ArrayList", "java.util.List", "java.util.Iterator");
        Matcher matcher = Pattern.compile("\\bimport\\s+([^;]+);").matcher(code);
        while (matcher.find()) {
            Due.is("import of " + matcher.group(1), known.contains(matcher.group(1)) ? 1 : 0, 1);
        }
    }

    /** A method ends where a brace stands as deep as its first line. */
    private static void methodLengths(String code) {
        List<String> lines = code.lines().toList();
        for (int j = 0; j < lines.size(); j++) {
            Matcher head = Pattern.compile("( +)[a-zA-Z].*\\) \\{").matcher(lines.get(j));
            if (head.matches()) {
                int end = lines.subList(j, lines.size()).indexOf(head.group(1) + "}");
                Due.is("lines from " + lines.get(j).trim() + ": " + end, end <= MOST_LINES ? 1 : 0, 1);
            }
        }
    }

    private static void classes() {
        Class<?>[] inside = StampRaids.class.getDeclaredClasses();
        Due.is("at most some twelve classes", inside.length + 1 <= MOST_CLASSES ? 1 : 0, 1);
        for (Class<?> one : inside) {
            Due.is(one + " is static", Modifier.isStatic(one.getModifiers()) ? 1 : 0, 1);
            Due.is(one + " is not public", Modifier.isPublic(one.getModifiers()) ? 1 : 0, 0);
            fields(one);
        }
        fields(StampRaids.class);
        Set<String> face = new HashSet<>();
        for (Method method : StampRaids.class.getDeclaredMethods()) {
            if (Modifier.isPublic(method.getModifiers())) {
                face.add(method.getName());
            }
        }
        methods(StampRaids.class, face);
        for (Class<?> one : inside) {
            methods(one, face);
        }
    }

    private static void methods(Class<?> one, Set<String> face) {
        for (Method method : one.getDeclaredMethods()) {
            boolean hidden = Modifier.isPrivate(method.getModifiers());
            Due.is(method + " bears a public name", hidden && face.contains(method.getName()) ? 1 : 0, 0);
            Due.is("at most seven parameters of " + method, method.getParameterCount() <= 7 ? 1 : 0, 1);
        }
    }

    private static void fields(Class<?> one) {
        int own = 0;
        for (Field field : one.getDeclaredFields()) {
            boolean fixed = Modifier.isStatic(field.getModifiers());
            own += fixed ? 0 : 1;
            Due.is(field + " is final", fixed && !Modifier.isFinal(field.getModifiers()) ? 1 : 0, 0);
        }
        Due.is("at most some twenty fields in " + one, own <= MOST_FIELDS ? 1 : 0, 1);
    }
}
