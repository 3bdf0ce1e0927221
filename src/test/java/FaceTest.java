import java.io.IOException;
import java.lang.reflect.Constructor;
import java.lang.reflect.Field;
import java.lang.reflect.Method;
import java.lang.reflect.Modifier;
import java.nio.file.Files;
import java.nio.file.Path;
import java.util.Arrays;
import java.util.Set;
import java.util.TreeSet;
import java.util.regex.Matcher;
import java.util.regex.Pattern;
import java.util.stream.Collectors;

/** The public face, and what LANGUAGE.md says that can be seen from outside or by a word in the file. Runs in the project's root. */
public final class FaceTest {
    private static final String FILE = "src/main/java/DoorWalk.java";

    private static final String[] FACE = {
        "int sign(int)", "boolean end(int)", "int labels()", "int exchange()", "int map()",
        "int sheet(int, int, int, int, int)", "int label(int, int) throws", "int point(int, int)", "int cell(int)",
        "int full()", "int nth(int)", "int with(int)", "int many(int)", "int outer(int)", "int doors(int)",
        "int walk(int, int)", "int step(int, int, int) throws", "int from(int, int)", "int hidden(int)",
        "int longest(int)", "int crossed()", "int leads(int, int, int)", "int finer(int)", "int within(int)",
        "int inner()", "int excess(int, int)", "int best()", "int clears()", "int sells(int, int, int)",
        "int were(int, int, int)", "int hangs(int)", "int lone()", "int lays(int, int, int)", "int grid(int)",
        "int swaps(int, int, int, int)", "int amounts(int, int, int)", "int day()", "int undo()",
        "int years(int, int)", "boolean keep(int)", "boolean again(int)", "int count(int)", "long row(int) throws"};

    private static final String[] NOT_IN_IT = {
        "->", "::", "catch", "finally", "synchronized", "assert", "double", "float", "package ", "static {", "import static",
        "Map<", "Object", "System.out", "Exact("};

    private static final Pattern DIVISOR = Pattern.compile("[/%]=? *([A-Za-z0-9_.]+)");

    private FaceTest() {
    }

    public static void main(String[] args) throws IOException {
        face();
        inside();
        file();
        divisors();
        Check.finish();
    }

    private static String told(Method m) {
        String kinds = Arrays.stream(m.getParameterTypes()).map(Class::getName).collect(Collectors.joining(", "));
        boolean none = Arrays.stream(m.getExceptionTypes()).anyMatch(e -> e == java.util.NoSuchElementException.class);
        return m.getReturnType() + " " + m.getName() + "(" + kinds + ")" + (none ? " throws" : "");
    }

    private static void face() {
        Set<String> seen = new TreeSet<>();
        Set<String> names = new TreeSet<>();
        for (Method m : DoorWalk.class.getDeclaredMethods()) {
            if (!Modifier.isPrivate(m.getModifiers())) {
                seen.add(told(m));
                names.add(m.getName());
                Check.due("public, not static: " + m, m.getModifiers(), Modifier.PUBLIC);
            }
        }
        Set<String> due = new TreeSet<>(Arrays.asList(FACE));
        Check.due("the face is " + seen, seen.equals(due), true);
        Check.due("public final", Modifier.isFinal(DoorWalk.class.getModifiers()) && Modifier.isPublic(DoorWalk.class.getModifiers()), true);
        Constructor<?>[] made = DoorWalk.class.getDeclaredConstructors();
        Check.due("constructors", made.length, 1);
        Check.due("it is public", Modifier.isPublic(made[0].getModifiers()), true);
        Check.due("it takes nothing", made[0].getParameterCount(), 0);
        for (Field f : DoorWalk.class.getDeclaredFields()) {
            Check.due("private but for NONE: " + f, Modifier.isPrivate(f.getModifiers()), !f.getName().equals("NONE"));
        }
        for (Method m : DoorWalk.class.getDeclaredMethods()) {
            if (Modifier.isPrivate(m.getModifiers())) {
                Check.due("no public one's name: " + m, names.contains(m.getName()), false);
            }
        }
    }

    private static void inside() {
        Class<?>[] classes = DoorWalk.class.getDeclaredClasses();
        Check.due("some twelve classes at most", classes.length < 12, true);
        for (Class<?> c : classes) {
            Check.due("static: " + c, Modifier.isStatic(c.getModifiers()), true);
            Check.due("some twenty fields at most: " + c, c.getDeclaredFields().length <= 20, true);
            for (Method m : c.getDeclaredMethods()) {
                Check.due("seven parameters at most: " + m, m.getParameterCount() <= 7, true);
            }
            for (Field f : c.getDeclaredFields()) {
                Check.due("no static state: " + f, Modifier.isStatic(f.getModifiers()), false);
            }
        }
        for (Field f : DoorWalk.class.getDeclaredFields()) {
            Check.due("final: " + f, Modifier.isFinal(f.getModifiers()), true);
        }
    }

    /** A divisor is a constant that is not 0, or tested in the very line. */
    private static void divisors() throws IOException {
        int found = 0;
        for (String line : Files.readString(Path.of(FILE)).lines().filter(l -> !l.trim().startsWith("/") && !l.trim().startsWith("*")).toList()) {
            Matcher m = DIVISOR.matcher(line.replaceAll("//.*", ""));
            while (m.find()) {
                String by = m.group(1);
                boolean safe = by.matches("[1-9][0-9]*|GOODS|RING|TRADER_SIGNS") || line.contains(by + " < 1 ? ");
                Check.due("divides by a constant or behind a test: " + line.trim(), safe, true);
                found++;
            }
        }
        Check.due("divisors were found", found > 0, true);
    }

    private static void file() throws IOException {
        String all = Files.readString(Path.of(FILE));
        for (String word : NOT_IN_IT) {
            Check.due("'" + word + "' is in it", all.contains(word), false);
        }
        Check.due("signs are 127 at most", all.chars().allMatch(c -> c <= 127), true);
        for (String line : all.lines().filter(l -> l.startsWith("import")).toList()) {
            boolean known = line.equals("import java.util.Arrays;") || line.equals("import java.util.NoSuchElementException;");
            Check.due(line, known, true);
        }
        for (String line : all.lines().filter(l -> l.contains("throw ")).toList()) {
            Check.due(line, line.trim().startsWith("throw new NoSuchElementException("), true);
        }
    }
}
