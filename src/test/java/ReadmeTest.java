import java.io.IOException;
import java.lang.reflect.InvocationTargetException;
import java.lang.reflect.Method;
import java.lang.reflect.Modifier;
import java.nio.file.Files;
import java.nio.file.Path;
import java.util.HashMap;
import java.util.List;
import java.util.Map;
import java.util.Set;
import java.util.TreeSet;
import java.util.regex.Matcher;
import java.util.regex.Pattern;

/**
 * The calls that README.md shows are answered as it says, and it shows every call of the face.
 * A line there is empty, a comment, the new object, or a call with its answer as the comment's first word.
 */
public final class ReadmeTest {
    private static final String NEW_OBJECT = "CodePages x = new CodePages();";
    private static final Pattern CALL =
        Pattern.compile("(?:int (\\w+) = )?x\\.(\\w+)\\(([^()]*)\\); +// (throws \\w+|-?\\w+)(?::.*)?");
    private static final Due due = new Due();

    private final Map<String, Integer> names = new HashMap<>();
    private final Set<String> shown = new TreeSet<>();
    private CodePages x = null;

    public static void main(String[] args) throws IOException, IllegalAccessException {
        ReadmeTest readme = new ReadmeTest();
        readme.names.put("CodePages.NONE", CodePages.NONE);
        for (String line : javaLines(Files.readAllLines(Path.of("README.md")))) {
            readme.read(line);
        }
        for (Method m : CodePages.class.getDeclaredMethods()) {
            if (Modifier.isPublic(m.getModifiers())) {
                due.is("README.md shows " + m.getName(), readme.shown.contains(m.getName()), true);
            }
        }
        due.end();
    }

    private static List<String> javaLines(List<String> lines) {
        int start = lines.indexOf("```java") + 1;
        List<String> behind = lines.subList(start, lines.size());
        int end = behind.indexOf("```");
        due.is("README.md has a block of Java", start > 0 && end > 0, true);
        return behind.subList(0, Math.max(0, end));
    }

    private void read(String line) throws IllegalAccessException {
        if (line.isEmpty() || line.startsWith("// ")) {
            return;
        }
        if (line.equals(NEW_OBJECT)) {
            x = new CodePages();
            return;
        }
        Matcher call = CALL.matcher(line);
        boolean understood = x != null && call.matches();
        due.is("README.md: this line is understood: " + line, understood, true);
        if (!understood) {
            return;
        }
        String got = answer(call.group(2), call.group(3));
        due.is("README.md: " + line + " (answered " + got + ")", got.equals(call.group(4)), true);
        shown.add(call.group(2));
        if (call.group(1) != null) {
            names.put(call.group(1), Integer.valueOf(got));
        }
    }

    private String answer(String name, String written) throws IllegalAccessException {
        String[] words = written.isEmpty() ? new String[0] : written.split(", ");
        Object[] arguments = new Object[words.length];
        for (int k = 0; k < words.length; k++) {
            arguments[k] = names.containsKey(words[k]) ? names.get(words[k]) : Integer.valueOf(words[k]);
        }
        try {
            return String.valueOf(methodOf(name).invoke(x, arguments));
        } catch (InvocationTargetException e) {
            return "throws " + e.getCause().getClass().getSimpleName();
        }
    }

    private static Method methodOf(String name) {
        for (Method m : CodePages.class.getDeclaredMethods()) {
            if (m.getName().equals(name)) {
                return m;
            }
        }
        throw new IllegalArgumentException("README.md shows " + name + ", which CodePages does not have");
    }
}
