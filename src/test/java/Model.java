import java.util.ArrayDeque;
import java.util.ArrayList;
import java.util.Arrays;
import java.util.Comparator;
import java.util.HashMap;
import java.util.HashSet;
import java.util.List;
import java.util.Map;
import java.util.NoSuchElementException;
import java.util.Set;

/**
 * The document told a second time, slowly and word by word, to hold DoorWalk against: POINTS are pairs, DOORS are
 * pairs of POINTS, a CELL is a list of POINTS, EXCESS is summed trader by trader. Shares no code with DoorWalk.
 */
final class Model {
    static final int NONE = -1;

    record P(int i, int j) {
    }

    record Cell(int number, List<P> points) {
    }

    record Door(Set<P> ends) {
    }

    record Exit(List<Cell> cells, int door) {
    }

    static final class State {
        int n = 4;
        int rule = 0;
        List<int[]> traders = new ArrayList<>();
        int[][] map = new int[3][3];
        Map<P, Integer> labels = new HashMap<>();

        State copy() {
            State s = new State();
            s.n = n;
            s.rule = rule;
            for (int[] t : traders) {
                s.traders.add(t.clone());
            }
            for (int g = 0; g < 3; g++) {
                s.map[g] = map[g].clone();
            }
            s.labels = new HashMap<>(labels);
            return s;
        }

        List<P> points() {
            List<P> all = new ArrayList<>();
            for (int i = 0; i <= n; i++) {
                for (int j = 0; i + j <= n; j++) {
                    all.add(new P(i, j));
                }
            }
            return all;
        }

        int price(P p, int g) {
            return new int[] {p.i, p.j, n - p.i - p.j}[g];
        }

        boolean can(P p, int v) {
            return v >= 0 && v <= 2 && price(p, v) != 0;
        }

        List<Cell> cells() {
            List<Cell> all = new ArrayList<>();
            for (int i = 0; i < n; i++) {
                for (int j = 0; j < n; j++) {
                    if (i + j <= n - 1) {
                        all.add(new Cell(2 * (n * i + j), List.of(new P(i, j), new P(i + 1, j), new P(i, j + 1))));
                    }
                    if (i + j <= n - 2) {
                        all.add(new Cell(2 * (n * i + j) + 1, List.of(new P(i + 1, j + 1), new P(i, j + 1), new P(i + 1, j))));
                    }
                }
            }
            all.sort(Comparator.comparingInt(Cell::number));
            return all;
        }

        Cell find(int number) {
            for (Cell c : cells()) {
                if (c.number == number) {
                    return c;
                }
            }
            return null;
        }

        int turn(Cell c) {
            String told = "" + labels.get(c.points.get(0)) + labels.get(c.points.get(1)) + labels.get(c.points.get(2));
            if (told.equals("012") || told.equals("120") || told.equals("201")) {
                return 1;
            }
            return told.contains("0") && told.contains("1") && told.contains("2") ? -1 : 0;
        }

        List<Cell> full() {
            List<Cell> all = new ArrayList<>();
            for (Cell c : cells()) {
                if (turn(c) != 0) {
                    all.add(c);
                }
            }
            return all;
        }

        int turns() {
            int sum = 0;
            for (Cell c : full()) {
                sum += turn(c);
            }
            return sum;
        }

        void byRule() {
            labels.clear();
            for (P p : points()) {
                labels.put(p, ruled(p));
            }
        }

        int ruled(P p) {
            int found = NONE;
            for (int g = 0; g < 3; g++) {
                if (price(p, g) == 0) {
                    continue;
                }
                if (rule == 1) {
                    if (found == NONE || excess(p, g) < excess(p, found)) {
                        found = g;
                    }
                } else if (rule == 2) {
                    long image = 0;
                    for (int h = 0; h < 3; h++) {
                        image += (long) map[g][h] * price(p, h);
                    }
                    long s = map[0][0] + map[1][0] + map[2][0];
                    if (found == NONE && image <= s * price(p, g)) {
                        found = g;
                    }
                } else if (found == NONE) {
                    found = g;
                }
            }
            return found;
        }

        long income(int[] t, P p) {
            return (long) price(p, 0) * t[0] + (long) price(p, 1) * t[1] + (long) price(p, 2) * t[2];
        }

        static long sum(int[] t) {
            return t[3] + t[4] + t[5];
        }

        long excess(P p, int g) {
            long d = 1;
            for (int[] t : traders) {
                d *= sum(t);
            }
            long x = 0;
            long amounts = 0;
            for (int[] t : traders) {
                x += income(t, p) * t[3 + g] * (d / sum(t));
                amounts += t[g];
            }
            return x - d * price(p, g) * amounts;
        }

        long off(P p) {
            return Math.max(Math.abs(excess(p, 0)), Math.max(Math.abs(excess(p, 1)), Math.abs(excess(p, 2))));
        }

        List<Door> doorsOf(Cell c, int kind) {
            List<Door> all = new ArrayList<>();
            for (int a = 0; a < 3; a++) {
                for (int b = a + 1; b < 3; b++) {
                    Set<Integer> two = new HashSet<>(List.of(0, 1, 2));
                    two.remove(kind);
                    Set<Integer> has = new HashSet<>();
                    has.add(labels.get(c.points.get(a)));
                    has.add(labels.get(c.points.get(b)));
                    if (has.equals(two)) {
                        all.add(new Door(Set.of(c.points.get(a), c.points.get(b))));
                    }
                }
            }
            return all;
        }

        List<Cell> behind(Door d) {
            List<Cell> all = new ArrayList<>();
            for (Cell c : cells()) {
                if (c.points.containsAll(d.ends)) {
                    all.add(c);
                }
            }
            return all;
        }

        List<Door> outer(int kind) {
            List<Door> all = new ArrayList<>();
            for (Cell c : cells()) {
                for (Door d : doorsOf(c, kind)) {
                    if (d.ends.stream().allMatch(p -> price(p, kind) == 0)) {
                        all.add(d);
                    }
                }
            }
            all.sort(Comparator.comparingInt(d -> d.ends.stream().mapToInt(p -> kind == 1 ? p.i : p.j).min().getAsInt()));
            return all;
        }

        /** On through a DOOR, out of a CELL (null: from outside). */
        Exit go(int kind, Cell out, Door through) {
            List<Cell> way = new ArrayList<>();
            Cell at = out;
            Door door = through;
            while (true) {
                Cell next = null;
                for (Cell c : behind(door)) {
                    if (at == null || c.number != at.number) {
                        next = c;
                    }
                }
                if (next == null) {
                    return new Exit(way, outer(kind).indexOf(door));
                }
                way.add(next);
                at = next;
                List<Door> on = doorsOf(next, kind);
                on.remove(door);
                if (on.isEmpty()) {
                    return new Exit(way, NONE);
                }
                door = on.get(0);
            }
        }

        Exit walk(int kind, int k) {
            return go(kind, null, outer(kind).get(k));
        }

        Set<Integer> walked(int kind) {
            Set<Integer> all = new HashSet<>();
            for (int k = 0; k < outer(kind).size(); k++) {
                for (Cell c : walk(kind, k).cells) {
                    all.add(c.number);
                }
            }
            return all;
        }
    }

    State now = new State();
    String text = "";
    List<Long> row = new ArrayList<>();
    List<State> undo = new ArrayList<>();
    State[] kept = new State[2];

    Model() {
        now.byRule();
    }

    private void tell(long... numbers) {
        row = new ArrayList<>();
        for (long x : numbers) {
            row.add(x);
        }
    }

    private boolean has(int i, int j) {
        return i >= 0 && j >= 0 && (long) i + j <= now.n;
    }

    private static boolean good(int g) {
        return g >= 0 && g <= 2;
    }

    private void push(State s) {
        undo.add(s);
        if (undo.size() > 8) {
            undo.remove(0);
        }
    }

    int sign(int v) {
        if (text.length() + 4 > 80) {
            return NONE;
        }
        for (int s = 24; s >= 0; s -= 8) {
            text += (char) (v >>> s & 0xff);
        }
        return text.length();
    }

    boolean end(int n) {
        if (n < 0 || n > text.length()) {
            return false;
        }
        text = text.substring(0, n);
        return true;
    }

    private String read() {
        String s = text;
        text = "";
        return s;
    }

    private static boolean digitAt(String s, int p) {
        return p < s.length() && s.charAt(p) >= '0' && s.charAt(p) <= '9';
    }

    int labels() {
        String s = read();
        for (int p = 0; p < 2; p++) {
            if (!digitAt(s, p)) {
                return -1 - p;
            }
        }
        int n = Integer.parseInt(s.substring(0, 2));
        if (n < 1 || n > 10) {
            return -2;
        }
        State then = new State();
        then.n = n;
        int at = 2;
        for (P p : then.points()) {
            if (!digitAt(s, at) || !then.can(p, s.charAt(at) - '0')) {
                return -1 - at;
            }
            then.labels.put(p, s.charAt(at) - '0');
            at++;
        }
        if (s.length() > at) {
            return -1 - at;
        }
        push(now);
        now = then;
        return then.points().size();
    }

    int exchange() {
        String s = read();
        List<int[]> traders = new ArrayList<>();
        int at = 0;
        while (true) {
            int[] t = new int[6];
            for (int k = 0; k < 6; k++) {
                if (!digitAt(s, at) || k >= 3 && s.charAt(at) == '0') {
                    return -1 - at;
                }
                t[k] = s.charAt(at) - '0';
                at++;
            }
            traders.add(t);
            if (at == s.length()) {
                break;
            }
            if (s.charAt(at) != ';' || traders.size() == 4) {
                return -1 - at;
            }
            at++;
        }
        push(now.copy());
        now.rule = 1;
        now.traders = traders;
        now.byRule();
        return traders.size();
    }

    int map() {
        String s = read();
        int[][] m = new int[3][3];
        for (int p = 0; p < 9; p++) {
            if (!digitAt(s, p)) {
                return -1 - p;
            }
            m[p / 3][p % 3] = s.charAt(p) - '0';
        }
        if (s.length() > 9) {
            return -10;
        }
        int[] sums = new int[3];
        for (int h = 0; h < 3; h++) {
            sums[h] = m[0][h] + m[1][h] + m[2][h];
        }
        if (sums[0] != sums[1] || sums[0] != sums[2] || sums[0] == 0) {
            return -200;
        }
        push(now.copy());
        now.rule = 2;
        now.map = m;
        now.byRule();
        return sums[0];
    }

    int sheet(int k, int kind, int n, int f, int step) {
        if (kind < 0 || kind > 3 || n > 160) {
            return NONE;
        }
        if (kind == 3) {
            return -3;
        }
        if (n < 0) {
            return -2;
        }
        State then = now.copy();
        then.rule = 0;
        int others = 0;
        int v = f;
        for (int e = 0; e < n; e++, v += step) {
            int entry = kind == 0 ? (byte) v : kind == 1 ? (short) v : v;
            long p = (long) k + e;
            if (p < 0 || p >= then.points().size()) {
                tell(e, 1);
                return -4;
            }
            P at = then.points().get((int) p);
            if (!then.can(at, entry)) {
                tell(e, 2);
                return -4;
            }
            if (then.labels.put(at, entry) != entry) {
                others++;
            }
        }
        now = then;
        return others;
    }

    int label(int i, int j) {
        if (!has(i, j)) {
            throw new NoSuchElementException();
        }
        return now.labels.get(new P(i, j));
    }

    int point(int i, int j) {
        if (!has(i, j)) {
            return NONE;
        }
        P p = new P(i, j);
        tell(now.price(p, 0), now.price(p, 1), now.price(p, 2));
        return now.points().indexOf(p);
    }

    int cell(int number) {
        Cell c = now.find(number);
        if (c == null) {
            return NONE;
        }
        tell(now.labels.get(c.points.get(0)), now.labels.get(c.points.get(1)), now.labels.get(c.points.get(2)), now.turn(c));
        return now.turn(c) == 0 ? 0 : 1;
    }

    private static int first(List<Cell> cells) {
        return cells.isEmpty() ? NONE : cells.get(0).number;
    }

    int full() {
        List<Cell> all = now.full();
        tell(now.turns(), first(all), all.isEmpty() ? NONE : all.get(all.size() - 1).number);
        return all.size();
    }

    int nth(int k) {
        List<Cell> all = now.full();
        if (k < 0 || k >= all.size()) {
            return NONE;
        }
        tell(now.turn(all.get(k)));
        return all.get(k).number;
    }

    int with(int set) {
        if (set < 1 || set > 7) {
            return NONE;
        }
        List<Cell> all = now.cells();
        all.removeIf(c -> c.points.stream().mapToInt(p -> 1 << now.labels.get(p)).reduce(0, (a, b) -> a | b) != set);
        tell(first(all));
        return all.size();
    }

    int many(int label) {
        if (!good(label)) {
            return NONE;
        }
        int many = 0;
        int rim = 0;
        for (P p : now.points()) {
            if (now.labels.get(p) == label) {
                many++;
                if (now.price(p, 0) == 0 || now.price(p, 1) == 0 || now.price(p, 2) == 0) {
                    rim++;
                }
            }
        }
        tell(rim);
        return many;
    }

    int outer(int kind) {
        if (!good(kind)) {
            return NONE;
        }
        List<Door> all = now.outer(kind);
        tell(all.stream().mapToLong(d -> now.behind(d).get(0).number).toArray());
        return all.size();
    }

    int doors(int kind) {
        if (!good(kind)) {
            return NONE;
        }
        Set<Door> all = new HashSet<>();
        int[] have = new int[4];
        for (Cell c : now.cells()) {
            List<Door> own = now.doorsOf(c, kind);
            have[own.size()]++;
            all.addAll(own);
        }
        tell(have[1], have[2]);
        return all.size();
    }

    private boolean isWalk(int kind, int k) {
        return good(kind) && k >= 0 && k < now.outer(kind).size();
    }

    int walk(int kind, int k) {
        if (!isWalk(kind, k)) {
            return NONE;
        }
        Exit w = now.walk(kind, k);
        Cell last = w.cells.get(w.cells.size() - 1);
        tell(last.number, now.turn(last) == 0 ? 0 : 1, w.door);
        return w.cells.size();
    }

    int step(int kind, int k, int n) {
        if (!isWalk(kind, k) || n < 0 || n >= now.walk(kind, k).cells.size()) {
            throw new NoSuchElementException();
        }
        return now.walk(kind, k).cells.get(n).number;
    }

    int from(int number, int kind) {
        Cell c = now.find(number);
        if (c == null || !good(kind)) {
            return NONE;
        }
        if (now.turn(c) == 0) {
            return -2;
        }
        Exit w = now.go(kind, c, now.doorsOf(c, kind).get(0));
        tell(w.cells.isEmpty() ? number : w.cells.get(w.cells.size() - 1).number, w.door);
        return w.cells.size();
    }

    int hidden(int kind) {
        if (!good(kind)) {
            return NONE;
        }
        Set<Integer> walked = now.walked(kind);
        List<Cell> all = now.full();
        all.removeIf(c -> walked.contains(c.number));
        tell(first(all));
        return all.size();
    }

    int longest(int kind) {
        if (!good(kind)) {
            return NONE;
        }
        int best = NONE;
        int most = 0;
        for (int k = 0; k < now.outer(kind).size(); k++) {
            int cells = now.walk(kind, k).cells.size();
            if (cells > most) {
                most = cells;
                best = k;
            }
        }
        if (best == NONE) {
            return -2;
        }
        tell(most, now.cells().size() - now.walked(kind).size());
        return best;
    }

    int crossed() {
        Set<Integer> all = now.walked(0);
        all.retainAll(now.walked(1));
        all.retainAll(now.walked(2));
        tell(all.stream().filter(c -> now.turn(now.find(c)) != 0).count());
        return all.size();
    }

    int leads(int number, int other, int kind) {
        Cell from = now.find(number);
        if (from == null || now.find(other) == null || !good(kind)) {
            return NONE;
        }
        Map<Integer, Integer> far = new HashMap<>();
        ArrayDeque<Cell> next = new ArrayDeque<>();
        far.put(number, 1);
        next.add(from);
        while (!next.isEmpty()) {
            Cell c = next.remove();
            for (Door d : now.doorsOf(c, kind)) {
                for (Cell b : now.behind(d)) {
                    if (!far.containsKey(b.number)) {
                        far.put(b.number, far.get(c.number) + 1);
                        next.add(b);
                    }
                }
            }
        }
        return far.getOrDefault(other, -2);
    }

    private State finerState(int n) {
        State s = now.copy();
        s.n = n;
        s.byRule();
        return s;
    }

    int finer(int n) {
        if (n < 1 || n > 16) {
            return NONE;
        }
        if (now.rule == 0) {
            return -3;
        }
        State s = finerState(n);
        tell(s.turns(), first(s.full()));
        return s.full().size();
    }

    int within(int number) {
        Cell c = now.find(number);
        if (c == null) {
            return NONE;
        }
        if (now.rule == 0) {
            return -3;
        }
        if (2 * now.n > 16) {
            return -4;
        }
        State s = finerState(2 * now.n);
        List<Cell> in = s.cells();
        in.removeIf(small -> !liesIn(small, c));
        tell(in.stream().mapToLong(Cell::number).toArray());
        in.removeIf(small -> s.turn(small) == 0);
        return in.size();
    }

    /** All of a small CELL's POINTS are within the bounds that the doubled POINTS of the big one have in each PRICE. */
    private boolean liesIn(Cell small, Cell big) {
        for (P p : small.points) {
            for (int g = 0; g < 3; g++) {
                int most = Integer.MIN_VALUE;
                int least = Integer.MAX_VALUE;
                for (P q : big.points) {
                    int price = 2 * now.price(q, g);
                    most = Math.max(most, price);
                    least = Math.min(least, price);
                }
                int price = new int[] {p.i, p.j, 2 * now.n - p.i - p.j}[g];
                if (price < least || price > most) {
                    return false;
                }
            }
        }
        return true;
    }

    int inner() {
        if (now.rule == 0) {
            return -3;
        }
        for (int n = now.n; n <= 16; n++) {
            State s = finerState(n);
            if (s.full().isEmpty()) {
                continue;
            }
            Cell c = s.full().get(0);
            if (c.points.stream().allMatch(p -> s.price(p, 0) > 0 && s.price(p, 1) > 0 && s.price(p, 2) > 0)) {
                tell(c.number);
                return n;
            }
        }
        return -2;
    }

    int excess(int i, int j) {
        if (!has(i, j)) {
            return NONE;
        }
        if (now.rule != 1) {
            return -3;
        }
        P p = new P(i, j);
        tell(now.excess(p, 0), now.excess(p, 1), now.excess(p, 2), now.off(p));
        return 0;
    }

    int best() {
        if (now.rule != 1) {
            return -3;
        }
        P best = now.points().stream().min(Comparator.comparingLong(now::off)).get();
        tell(best.i, best.j, now.off(best));
        return now.points().indexOf(best);
    }

    int clears() {
        if (now.rule != 1) {
            return -3;
        }
        Cell found = null;
        P best = null;
        for (Cell c : now.full()) {
            for (P p : c.points) {
                if (best == null || now.off(p) < now.off(best)) {
                    best = p;
                    found = c;
                }
            }
        }
        if (found == null) {
            return -2;
        }
        long off = now.off(best);
        tell(best.i, best.j, off, now.points().stream().filter(p -> now.off(p) < off).count());
        return found.number;
    }

    int sells(int i, int j, int g) {
        if (!has(i, j) || !good(g)) {
            return NONE;
        }
        if (now.rule != 1) {
            return -3;
        }
        P p = new P(i, j);
        int bits = 0;
        int many = 0;
        for (int t = 0; t < now.traders.size(); t++) {
            int[] trader = now.traders.get(t);
            if (now.income(trader, p) * trader[3 + g] <= (long) now.price(p, g) * trader[g] * State.sum(trader)) {
                bits += 1 << t;
                many++;
            }
        }
        tell(many);
        return bits;
    }

    int were(int i, int j, int v) {
        if (!has(i, j) || !good(v)) {
            return NONE;
        }
        P p = new P(i, j);
        if (!now.can(p, v)) {
            return -4;
        }
        State s = now.copy();
        s.labels.put(p, v);
        tell(s.turns(), s.full().stream().filter(c -> now.turn(c) == 0).count());
        return s.full().size();
    }

    int hangs(int number) {
        Cell c = now.find(number);
        if (c == null) {
            return NONE;
        }
        if (now.turn(c) == 0) {
            return -2;
        }
        long[] firsts = {NONE, NONE, NONE};
        int many = 0;
        for (int k = 0; k < 3; k++) {
            for (int v = 2; v >= 0; v--) {
                State s = now.copy();
                s.labels.put(c.points.get(k), v);
                if (now.can(c.points.get(k), v) && s.turn(c) == 0 && s.full().size() >= now.full().size()) {
                    firsts[k] = v;
                }
            }
            many += firsts[k] == NONE ? 0 : 1;
        }
        tell(firsts);
        return many;
    }

    int lone() {
        int full = now.full().size();
        if (full == 1) {
            tell(full, NONE, NONE);
            return 0;
        }
        for (P p : now.points()) {
            for (int v = 0; v < 3; v++) {
                State s = now.copy();
                s.labels.put(p, v);
                if (now.can(p, v) && s.full().size() == 1) {
                    tell(full, now.points().indexOf(p), v);
                    return 1;
                }
            }
        }
        return -2;
    }

    private int doLays(int i, int j, int v) {
        if (!has(i, j) || !good(v)) {
            return NONE;
        }
        P p = new P(i, j);
        if (now.labels.get(p) == v) {
            return -2;
        }
        if (!now.can(p, v)) {
            return -4;
        }
        now.rule = 0;
        return now.labels.put(p, v);
    }

    private int doGrid(int n) {
        if (n < 1 || n > 16) {
            return NONE;
        }
        if (n == now.n) {
            return -2;
        }
        if (now.rule == 0) {
            return -3;
        }
        now.n = n;
        now.byRule();
        return now.full().size();
    }

    private int doSwaps(int i, int j, int i2, int j2) {
        P p = new P(i, j);
        P q = new P(i2, j2);
        if (!has(i, j) || !has(i2, j2) || p.equals(q)) {
            return NONE;
        }
        int a = now.labels.get(p);
        int b = now.labels.get(q);
        if (a == b) {
            return -2;
        }
        if (!now.can(p, b) || !now.can(q, a)) {
            return -4;
        }
        now.rule = 0;
        now.labels.put(p, b);
        now.labels.put(q, a);
        return now.full().size();
    }

    private int doAmounts(int trader, int g, int v) {
        if (trader < 0 || trader > 3 || !good(g) || v < 0 || v > 9) {
            return NONE;
        }
        if (now.rule != 1) {
            return -3;
        }
        if (trader >= now.traders.size()) {
            return NONE;
        }
        int was = now.traders.get(trader)[g];
        if (was == v) {
            return -2;
        }
        now.traders.get(trader)[g] = v;
        now.byRule();
        return was;
    }

    private int done(State before, int answer) {
        if (answer >= 0) {
            push(before);
        }
        return answer;
    }

    int lays(int i, int j, int v) {
        return done(now.copy(), doLays(i, j, v));
    }

    int grid(int n) {
        return done(now.copy(), doGrid(n));
    }

    int swaps(int i, int j, int i2, int j2) {
        return done(now.copy(), doSwaps(i, j, i2, j2));
    }

    int amounts(int trader, int g, int v) {
        return done(now.copy(), doAmounts(trader, g, v));
    }

    int day() {
        String s = read();
        List<String> acts = new ArrayList<>();
        int at = 0;
        while (at < s.length()) {
            int kind = "lgsa".indexOf(s.charAt(at));
            if (kind < 0) {
                return -1 - at;
            }
            int digits = new int[] {5, 2, 8, 3}[kind];
            for (int d = 1; d <= digits; d++) {
                if (!digitAt(s, at + d)) {
                    return -1 - (at + d);
                }
            }
            acts.add(s.substring(at, at + 1 + digits));
            at += 1 + digits;
        }
        State before = now.copy();
        int many = 0;
        int failed = 0;
        for (String act : acts) {
            if (doAct(act) < 0) {
                failed = 1;
                break;
            }
            many++;
        }
        if (many > 0) {
            push(before);
        }
        tell(failed, now.full().size());
        return many;
    }

    private int doAct(String act) {
        int[] two = new int[4];
        for (int k = 0; k < 4 && 3 + 2 * k <= act.length(); k++) {
            two[k] = Integer.parseInt(act.substring(1 + 2 * k, 3 + 2 * k));
        }
        int[] one = act.substring(1).chars().map(c -> c - '0').toArray();
        return switch (act.charAt(0)) {
            case 'l' -> doLays(two[0], two[1], one[4]);
            case 'g' -> doGrid(two[0]);
            case 's' -> doSwaps(two[0], two[1], two[2], two[3]);
            default -> doAmounts(one[0], one[1], one[2]);
        };
    }

    int undo() {
        if (undo.isEmpty()) {
            return NONE;
        }
        now = undo.remove(undo.size() - 1);
        return undo.size();
    }

    int years(int seed, int n) {
        if (n < 1 || n > 40) {
            return NONE;
        }
        // it is forgotten: what is told is told of the LABELS of then, and all is as it was ahead of the call
        int[] r = {seed};
        var before = now.copy();
        for (int k = 0; k < n; k++) {
            P p = now.points().get(draw(r, now.points().size()));
            doLays(p.i, p.j, draw(r, 3));
        }
        var then = now;
        now = before;
        tell(then.turns(), then.outer(0).size(), then.outer(1).size(), then.outer(2).size());
        return then.full().size();
    }

    private static int draw(int[] r, int n) {
        r[0] = r[0] * 1103515245 + 12345;
        return (int) (Integer.toUnsignedLong(r[0]) / 65536 % n);
    }

    boolean keep(int i) {
        if (i < 0 || i > 1) {
            return false;
        }
        kept[i] = now.copy();
        return true;
    }

    boolean again(int i) {
        if (i < 0 || i > 1 || kept[i] == null) {
            return false;
        }
        now = kept[i].copy();
        undo.clear();
        return true;
    }

    int count(int what) {
        int[] all = {now.n, now.points().size(), now.cells().size(), now.rule, now.rule == 1 ? now.traders.size() : 0,
            now.full().size(), undo.size(), row.size(), text.length()};
        return what < 0 || what >= all.length ? NONE : all[what];
    }

    long row(int i) {
        if (i < 0 || i >= row.size()) {
            throw new NoSuchElementException();
        }
        return row.get(i);
    }

    @Override
    public String toString() {
        return "N " + now.n + " rule " + now.rule + " labels " + now.labels + " map " + Arrays.deepToString(now.map);
    }
}
