import java.util.ArrayList;
import java.util.List;
import java.util.NoSuchElementException;

/** All LABELS that GRIDS 1, 2, 3 can have, and all small MAPS: every question, one step beyond each end too, against the slow Model. */
public final class SmallGridsTest {
    private static final long THROWN = Long.MIN_VALUE;
    /** An object is good for 512 calls: made anew well ahead of that. */
    private static final int CALLS = 480;

    private interface Fresh {
        void make();
    }

    private static DoorWalk x;
    private static Model m;
    private static Fresh fresh;
    private static String name;
    private static int calls;

    private SmallGridsTest() {
    }

    public static void main(String[] args) {
        for (int n = 1; n <= 3; n++) {
            for (String signs : all(n)) {
                ofLabels(signs);
            }
        }
        for (String signs : maps()) {
            ofMap(signs);
        }
        Check.finish();
    }

    private static List<String> all(int n) {
        Model.State s = new Model.State();
        s.n = n;
        List<String> told = new ArrayList<>(List.of("0" + n));
        for (Model.P p : s.points()) {
            List<String> longer = new ArrayList<>();
            for (String t : told) {
                for (int v = 0; v < 3; v++) {
                    if (s.can(p, v)) {
                        longer.add(t + v);
                    }
                }
            }
            told = longer;
        }
        return told;
    }

    /** Sums 1: each column has one 1, 27 of them; sums 2: two, at one place or at two, 216. */
    private static List<String> maps() {
        List<String> told = new ArrayList<>();
        int[][] ones = {{1, 0, 0}, {0, 1, 0}, {0, 0, 1}};
        int[][] twos = {{2, 0, 0}, {0, 2, 0}, {0, 0, 2}, {1, 1, 0}, {1, 0, 1}, {0, 1, 1}};
        for (int[][] columns : new int[][][] {ones, twos}) {
            for (int[] a : columns) {
                for (int[] b : columns) {
                    for (int[] c : columns) {
                        told.add("" + a[0] + b[0] + c[0] + a[1] + b[1] + c[1] + a[2] + b[2] + c[2]);
                    }
                }
            }
        }
        return told;
    }

    private static void tell(String signs) {
        Check.text(x, signs);
        m.text = signs;
    }

    private static long answer(Check.Call call) {
        try {
            return call.run();
        } catch (NoSuchElementException e) {
            return THROWN;
        }
    }

    /** The answer and the whole ROW. */
    private static void same(String what, Check.Call own, Check.Call model) {
        if (calls > CALLS) {
            fresh.make();
        }
        String which = name + ", " + what;
        Check.due(which, answer(own), answer(model));
        Check.due(which + ", numbers of the ROW", x.count(7), m.row.size());
        for (int k = 0; k < m.row.size(); k++) {
            int at = k;
            Check.due(which + ", row(" + k + ")", answer(() -> x.row(at)), m.row.get(k));
        }
        calls += 2 + m.row.size();
    }

    private static void begin(String what, Fresh how) {
        name = what;
        fresh = how;
        how.make();
    }

    private static void ofLabels(String signs) {
        begin("labels " + signs, () -> {
            x = new DoorWalk();
            m = new Model();
            tell(signs);
            calls = 10;
            same("labels()", () -> x.labels(), () -> m.labels());
        });
        int n = signs.charAt(1) - '0';
        same("full()", () -> x.full(), () -> m.full());
        same("crossed()", () -> x.crossed(), () -> m.crossed());
        same("lone()", () -> x.lone(), () -> m.lone());
        for (int k = -1; k <= 8; k++) {
            int a = k;
            same("nth(" + k + ")", () -> x.nth(a), () -> m.nth(a));
            same("with(" + k + ")", () -> x.with(a), () -> m.with(a));
        }
        for (int c = -1; c <= 2 * n * n; c++) {
            int a = c;
            same("cell(" + c + ")", () -> x.cell(a), () -> m.cell(a));
            same("hangs(" + c + ")", () -> x.hangs(a), () -> m.hangs(a));
        }
        for (int kind = -1; kind <= 3; kind++) {
            ofKind(n, kind);
        }
        ofPoints(n);
    }

    private static void ofKind(int n, int kind) {
        same("many(" + kind + ")", () -> x.many(kind), () -> m.many(kind));
        same("outer(" + kind + ")", () -> x.outer(kind), () -> m.outer(kind));
        same("doors(" + kind + ")", () -> x.doors(kind), () -> m.doors(kind));
        same("hidden(" + kind + ")", () -> x.hidden(kind), () -> m.hidden(kind));
        same("longest(" + kind + ")", () -> x.longest(kind), () -> m.longest(kind));
        for (int k = -1; k <= n; k++) {
            int a = k;
            same("walk(" + kind + ", " + k + ")", () -> x.walk(kind, a), () -> m.walk(kind, a));
            for (int s = -1; s <= n; s++) {
                int b = s;
                same("step(" + kind + ", " + k + ", " + s + ")", () -> x.step(kind, a, b), () -> m.step(kind, a, b));
            }
        }
        for (int c = -1; c <= 2 * n * n; c++) {
            int a = c;
            same("from(" + c + ", " + kind + ")", () -> x.from(a, kind), () -> m.from(a, kind));
            // from each CELL to one of three: all pairs of CELLS are seen over the LABELS
            for (int o = Math.floorMod(c + kind, 3) - 1; o <= 2 * n * n; o += 3) {
                int b = o;
                same("leads(" + c + ", " + o + ", " + kind + ")", () -> x.leads(a, b, kind), () -> m.leads(a, b, kind));
            }
        }
    }

    private static void ofPoints(int n) {
        for (int i = -1; i <= n + 1; i++) {
            for (int j = -1; j <= n + 1; j++) {
                int a = i;
                int b = j;
                same("label(" + i + ", " + j + ")", () -> x.label(a, b), () -> m.label(a, b));
                same("point(" + i + ", " + j + ")", () -> x.point(a, b), () -> m.point(a, b));
                for (int v = -1; v <= 3; v++) {
                    int c = v;
                    same("were(" + i + ", " + j + ", " + v + ")", () -> x.were(a, b, c), () -> m.were(a, b, c));
                }
            }
        }
    }

    private static void beginMap(String signs, int n) {
        begin("map " + signs + ", GRID " + n, () -> {
            x = new DoorWalk();
            m = new Model();
            tell(signs);
            calls = 10;
            same("map()", () -> x.map(), () -> m.map());
            same("grid(" + n + ")", () -> x.grid(n), () -> m.grid(n));
        });
    }

    private static void ofMap(String signs) {
        for (int n : new int[] {1, 2, 4, 5}) {
            beginMap(signs, n);
            same("full()", () -> x.full(), () -> m.full());
            for (int c = -1; c <= 2 * n * n; c++) {
                int a = c;
                same("within(" + c + ")", () -> x.within(a), () -> m.within(a));
            }
            for (Model.P p : m.now.points()) {
                same("label(" + p + ")", () -> x.label(p.i(), p.j()), () -> m.label(p.i(), p.j()));
            }
        }
        same("inner()", () -> x.inner(), () -> m.inner());
        for (int n = 0; n <= 9; n++) {
            int a = n;
            same("finer(" + n + ")", () -> x.finer(a), () -> m.finer(a));
        }
    }
}
