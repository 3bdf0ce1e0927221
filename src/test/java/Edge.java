import java.io.IOException;
import java.nio.file.Files;
import java.nio.file.Path;
import java.util.ArrayList;
import java.util.List;
import java.util.NoSuchElementException;
import java.util.regex.Matcher;
import java.util.regex.Pattern;

/**
 * A sentence of the document that names a boundary case, in its own words, with the number of its promise (0: what
 * stands ahead of promise 1), and what is tested of it.
 */
final class Edge {
    interface Made {
        DoorWalk make();
    }

    interface Asked {
        long of(DoorWalk x);
    }

    /** What a call that throws NoSuchElementException answers here. */
    static final long THROWN = Long.MIN_VALUE;
    private static final int PROMISES = 44;
    private static final Pattern NAMES_A_CASE = Pattern.compile("(NONE|-200|-[1-9]|-1 - p|Refused|NoSuchElementException): |NONE for ");
    private static final List<Edge> ALL = new ArrayList<>();

    private final int promise;
    private final String words;
    private int tests = 0;

    private Edge(int promise, String words) {
        this.promise = promise;
        this.words = words;
    }

    static Edge of(int promise, String words) {
        Edge e = new Edge(promise, words);
        ALL.add(e);
        return e;
    }

    private String named(String what) {
        tests++;
        return this + ": " + what;
    }

    @Override
    public String toString() {
        return "promise " + promise + ", '" + words + "'";
    }

    private static long answer(Asked call, DoorWalk x) {
        try {
            return call.of(x);
        } catch (NoSuchElementException e) {
            return THROWN;
        }
    }

    void is(String what, long got, long want) {
        Check.due(named(what), got, want);
    }

    void is(String what, boolean got, boolean want) {
        Check.due(named(what), got, want);
    }

    void row(String what, DoorWalk x, long... want) {
        Check.row(named(what), x, want);
    }

    void labels(String what, DoorWalk x, String want) {
        Check.told(named(what), x, want);
    }

    /** The answer, and that nothing has changed by it, the ROW neither. */
    void stays(String what, Made made, Asked call, long due) {
        String which = named(what);
        DoorWalk x = made.make();
        Check.due(which, answer(call, x), due);
        Twins.same(which, x, made.make(), true);
    }

    /** The answer, the ROW that it tells, and that nothing else has changed by it. */
    void tells(String what, Made made, Asked call, long due, long... row) {
        String which = named(what);
        DoorWalk x = made.make();
        Check.due(which, answer(call, x), due);
        Check.row(which, x, row);
        Twins.same(which, x, made.make(), false);
    }

    /** The answer to a TEXT that is refused, and that nothing has changed by it but THE TEXT, which is empty. */
    void refusesText(Made made, String signs, Asked call, long due) {
        String which = named("'" + signs + "'");
        DoorWalk x = made.make();
        x.end(0);
        Check.text(x, signs);
        Check.due(which, answer(call, x), due);
        Check.due(which + ": THE TEXT is empty", x.count(8), 0);
        DoorWalk y = made.make();
        y.end(0);
        Twins.same(which, x, y, true);
    }

    // ---- the document itself

    /** Each sentence quoted stands in the document, and each one there that names an answer of refusal is quoted. */
    static void holdAgainst(Path document) throws IOException {
        String all = Files.readString(document).replaceAll("\\s+", " ");
        for (int promise = 0; promise <= PROMISES; promise++) {
            String section = section(all, promise);
            for (Edge e : ALL) {
                if (e.promise == promise) {
                    Check.due(e + " is tested", e.tests > 0, true);
                    Check.due(e + " stands in the document", section.contains(e.words), true);
                }
            }
            if (promise > 0) {
                allQuoted(promise, section);
            }
        }
    }

    private static void allQuoted(int promise, String section) {
        Check.due("promise " + promise + " has a boundary case", ALL.stream().anyMatch(e -> e.promise == promise), true);
        Matcher m = NAMES_A_CASE.matcher(section);
        while (m.find()) {
            int at = m.start();
            boolean quoted = ALL.stream().anyMatch(e -> e.promise == promise && covers(section, e.words, at));
            Check.due("promise " + promise + ": '" + section.substring(at, Math.min(section.length(), at + 50)) + "' is quoted", quoted, true);
        }
    }

    private static boolean covers(String section, String words, int at) {
        int from = section.indexOf(words);
        return from >= 0 && from <= at && at < from + words.length();
    }

    private static String section(String all, int promise) {
        int from = promise == 0 ? 0 : Math.max(0, all.indexOf("## Promise " + promise + ":"));
        int to = promise == PROMISES ? all.indexOf("## Not promised") : all.indexOf("## Promise " + (promise + 1) + ":");
        return to < from ? "" : all.substring(from, to);
    }
}
