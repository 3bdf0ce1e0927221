import java.io.IOException;
import java.lang.reflect.InvocationTargetException;
import java.lang.reflect.Method;
import java.lang.reflect.Modifier;
import java.nio.file.Files;
import java.nio.file.Path;
import java.util.Set;
import java.util.TreeSet;
import java.util.regex.Matcher;
import java.util.regex.Pattern;

/**
 * The example in README.md, run line by line: each call answers what stands behind it. README.md also names each call of the
 * face. Runs in the project's root.
 */
public final class ReadmeTest {
    private static final Path README = Path.of("README.md");
    private static final Pattern LINE = Pattern.compile("x\\.(\\w+)\\(([^)]*)\\); *// (-?\\w+)\\b.*");

    private ReadmeTest() {
    }

    public static void main(String[] args) throws IOException, IllegalAccessException {
        String all = Files.readString(README);
        example(all);
        allNamed(all);
        Check.finish();
    }

    private static void example(String all) throws IllegalAccessException {
        int from = all.indexOf("```java");
        int to = all.indexOf("```", from + 3);
        Check.due("README.md has an example", from >= 0 && to > from, true);
        DoorWalk x = new DoorWalk();
        for (String line : all.substring(Math.max(0, from), Math.max(0, to)).lines().filter(l -> l.startsWith("x.")).toList()) {
            Matcher m = LINE.matcher(line);
            Check.due("a call and its answer: " + line, m.matches(), true);
            if (m.matches()) {
                String got = answer(x, m.group(1), m.group(2));
                Check.due(line + " (it answered " + got + ")", got.equals(m.group(3)), true);
            }
        }
    }

    private static String answer(DoorWalk x, String name, String told) throws IllegalAccessException {
        String[] parts = told.isBlank() ? new String[0] : told.split(",");
        Object[] numbers = new Object[parts.length];
        for (int k = 0; k < parts.length; k++) {
            numbers[k] = Integer.decode(parts[k].trim());
        }
        for (Method m : DoorWalk.class.getMethods()) {
            if (m.getName().equals(name) && m.getParameterCount() == parts.length) {
                try {
                    return m.invoke(x, numbers).toString();
                } catch (InvocationTargetException e) {
                    return e.getCause().toString();
                }
            }
        }
        return "no such call";
    }

    private static void allNamed(String all) {
        Set<String> missing = new TreeSet<>();
        for (Method m : DoorWalk.class.getDeclaredMethods()) {
            if (Modifier.isPublic(m.getModifiers()) && !all.contains("`" + m.getName() + "`")) {
                missing.add(m.getName());
            }
        }
        Check.due("README.md names each call; it lacks " + missing, missing.size(), 0);
    }
}
