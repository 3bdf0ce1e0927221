import java.util.NoSuchElementException;
import java.util.Random;

/** Long drawn runs of calls (seeds are fixed), each answer, ROW and LABEL held against the slow Model. */
public final class ModelTest {
    private static final int CALLS_OF_AN_OBJECT = 512;
    private static final int RUNS = 700;
    private static final long THROWN = Long.MIN_VALUE;

    private final Random draw;
    private final int seed;
    private final int calm;
    private DoorWalk x = new DoorWalk();
    private Model m = new Model();
    private int calls = 0;

    private ModelTest(int seed) {
        this.seed = seed;
        draw = new Random(seed);
        calm = draw.nextInt(3);
    }

    public static void main(String[] args) {
        for (int seed = 0; seed < RUNS; seed++) {
            new ModelTest(seed).run();
        }
        Check.finish();
    }

    private void run() {
        while (calls < CALLS_OF_AN_OBJECT - 90) {
            act();
            seeRow();
            if (draw.nextInt(40) == 0 && m.now.n <= 6) {
                seeLabels();
            }
        }
        for (int what = -1; what <= 9; what++) {
            int w = what;
            same("count(" + what + ")", () -> x.count(w), () -> m.count(w));
        }
    }

    private void same(String what, Check.Call own, Check.Call model) {
        calls++;
        Check.due("run " + seed + ", call " + calls + ", " + what, answer(own), answer(model));
    }

    private static long answer(Check.Call call) {
        try {
            return call.run();
        } catch (NoSuchElementException e) {
            return THROWN;
        }
    }

    private void seeRow() {
        same("count(7)", () -> x.count(7), () -> m.count(7));
        for (int k = 0; k < m.row.size(); k++) {
            int at = k;
            same("row(" + k + ")", () -> x.row(at), () -> m.row(at));
        }
        if (draw.nextInt(8) == 0) {
            int at = m.row.size() - draw.nextInt(2) * (m.row.size() + 1);
            same("row(" + at + ")", () -> x.row(at), () -> m.row(at));
        }
    }

    private void seeLabels() {
        for (Model.P p : m.now.points()) {
            same("label(" + p + ")", () -> x.label(p.i(), p.j()), () -> m.label(p.i(), p.j()));
        }
    }

    /** Mostly 0 .. most, now and then outside or far outside. */
    private int about(int most) {
        int how = draw.nextInt(30);
        if (how == 0) {
            return draw.nextInt();
        }
        if (how == 1) {
            return -1;
        }
        return how == 2 ? most + 1 : draw.nextInt(most + 1);
    }

    private Model.P somePoint() {
        int i = about(m.now.n);
        int left = i >= 0 && i <= m.now.n ? m.now.n - i : 3;
        return new Model.P(i, about(left));
    }

    private int someCell() {
        if (draw.nextInt(8) == 0) {
            return about(2 * m.now.n * m.now.n);
        }
        var some = draw.nextBoolean() ? m.now.full() : m.now.cells();
        return some.get(draw.nextInt(some.size())).number();
    }

    private String digits(int many, int least, int most) {
        StringBuilder s = new StringBuilder();
        for (int k = 0; k < many; k++) {
            s.append((char) ('0' + least + draw.nextInt(most - least + 1)));
        }
        return s.toString();
    }

    private String labelsText() {
        int n = 1 + draw.nextInt(10);
        Model.State s = new Model.State();
        s.n = n;
        StringBuilder told = new StringBuilder(n < 10 ? "0" + n : "10");
        for (Model.P p : s.points()) {
            int v = draw.nextInt(3);
            while (!s.can(p, v)) {
                v = (v + 1) % 3;
            }
            told.append(v);
        }
        return told.toString();
    }

    private String exchangeText() {
        StringBuilder told = new StringBuilder(digits(3, 0, 9) + digits(3, 1, 9));
        int more = draw.nextInt(draw.nextInt(10) == 0 ? 5 : 4);
        for (int t = 0; t < more; t++) {
            told.append(';').append(digits(3, 0, 9)).append(digits(3, 1, 9));
        }
        return told.toString();
    }

    private String mapText() {
        if (draw.nextInt(6) == 0) {
            return digits(9, 0, 1);
        }
        int sum = 1 + draw.nextInt(9);
        int[][] map = new int[3][3];
        for (int h = 0; h < 3; h++) {
            map[0][h] = draw.nextInt(sum + 1);
            map[1][h] = draw.nextInt(sum - map[0][h] + 1);
            map[2][h] = sum - map[0][h] - map[1][h];
        }
        StringBuilder told = new StringBuilder();
        for (int[] g : map) {
            told.append(g[0]).append(g[1]).append(g[2]);
        }
        return told.toString();
    }

    private String pair(int most) {
        int v = draw.nextInt(12) == 0 ? draw.nextInt(100) : draw.nextInt(most + 1);
        return v < 10 ? "0" + v : "" + v;
    }

    private String dayText() {
        StringBuilder told = new StringBuilder();
        int acts = draw.nextInt(6);
        for (int k = 0; k < acts; k++) {
            int n = Math.max(1, m.now.n / 2);
            switch (draw.nextInt(m.now.rule == 1 ? 4 : 3)) {
                case 0 -> told.append('l').append(pair(n)).append(pair(n)).append(digits(1, 0, draw.nextInt(9) == 0 ? 9 : 2));
                case 1 -> told.append('g').append(pair(16));
                case 2 -> told.append('s').append(pair(n)).append(pair(n)).append(pair(n)).append(pair(n));
                default -> told.append('a').append(digits(1, 0, m.now.traders.size() - 1)).append(digits(1, 0, 2)).append(digits(1, 0, 9));
            }
        }
        return told.toString();
    }

    /** A text, sometimes with a sign changed, lost or put in. */
    private void tell(String told) {
        StringBuilder s = new StringBuilder(told);
        if (draw.nextInt(5) == 0 && s.length() > 0) {
            int p = draw.nextInt(s.length());
            switch (draw.nextInt(4)) {
                case 0 -> s.deleteCharAt(p);
                case 1 -> s.insert(p, (char) ('0' + draw.nextInt(12)));
                case 2 -> s.setCharAt(p, (char) draw.nextInt(256));
                default -> s.setLength(p);
            }
        }
        if (m.text.length() > 0) {
            same("end(0)", () -> x.end(0) ? 1 : 0, () -> m.end(0) ? 1 : 0);
        }
        for (int p = 0; p < s.length(); p += 4) {
            int v = 0;
            for (int k = p; k < p + 4; k++) {
                v = v << 8 | (k < s.length() ? s.charAt(k) : draw.nextInt(256));
            }
            int signs = v;
            same("sign(" + v + ")", () -> x.sign(signs), () -> m.sign(signs));
        }
        int n = s.length();
        same("end(" + n + ")", () -> x.end(n) ? 1 : 0, () -> m.end(n) ? 1 : 0);
    }

    private void act() {
        int how = draw.nextInt(100);
        if (how < (calm == 0 ? 45 : 20)) {
            change();
        } else if (how < 24 + 20) {
            askWhatIf();
        } else if (how < 75) {
            askDoors();
        } else {
            askCells();
        }
    }

    private void change() {
        Model.P p = somePoint();
        Model.P q = somePoint();
        int a = about(2);
        switch (draw.nextInt(17)) {
            case 0 -> {
                tell(labelsText());
                same("labels()", x::labels, m::labels);
            }
            case 1 -> {
                tell(exchangeText());
                same("exchange()", x::exchange, m::exchange);
            }
            case 2 -> {
                tell(mapText());
                same("map()", x::map, m::map);
            }
            case 3, 4 -> {
                tell(dayText());
                same("day()", x::day, m::day);
            }
            case 5, 6 -> sheet();
            case 7, 8 -> same("lays(" + p + a + ")", () -> x.lays(p.i(), p.j(), a), () -> m.lays(p.i(), p.j(), a));
            case 9 -> same("swaps(" + p + q + ")", () -> x.swaps(p.i(), p.j(), q.i(), q.j()), () -> m.swaps(p.i(), p.j(), q.i(), q.j()));
            case 10 -> {
                int n = about(15) + draw.nextInt(2);
                same("grid(" + n + ")", () -> x.grid(n), () -> m.grid(n));
            }
            case 11 -> {
                int t = about(3);
                int v = about(9);
                same("amounts(" + t + " " + a + " " + v + ")", () -> x.amounts(t, a, v), () -> m.amounts(t, a, v));
            }
            case 12 -> same("undo()", x::undo, m::undo);
            case 13 -> years();
            case 14 -> layMany();
            case 15 -> same("keep(" + a + ")", () -> x.keep(a) ? 1 : 0, () -> m.keep(a) ? 1 : 0);
            default -> same("again(" + a + ")", () -> x.again(a) ? 1 : 0, () -> m.again(a) ? 1 : 0);
        }
        same("count(6)", () -> x.count(6), () -> m.count(6));
        same("count(5)", () -> x.count(5), () -> m.count(5));
        same("count(3)", () -> x.count(3), () -> m.count(3));
    }

    private void sheet() {
        int k = about(m.now.points().size() - 1);
        int kind = draw.nextInt(9) == 0 ? about(3) : draw.nextInt(3);
        int n = draw.nextInt(9) == 0 ? about(160) : draw.nextInt(4);
        int f = draw.nextInt(5) == 0 ? draw.nextInt() : draw.nextInt(3) + (draw.nextInt(4) == 0 ? 65536 * draw.nextInt(9) : 0);
        int step = draw.nextInt(3) - 1 + (draw.nextInt(6) == 0 ? 256 : 0);
        same("sheet(" + k + " " + kind + " " + n + " " + f + " " + step + ")", () -> x.sheet(k, kind, n, f, step), () -> m.sheet(k, kind, n, f, step));
    }

    private void years() {
        int from = draw.nextInt();
        int n = about(40);
        same("years(" + from + " " + n + ")", () -> x.years(from, n), () -> m.years(from, n));
    }

    /** Many LABELS by hand, as GRIDS above 10 can't be told as texts. */
    private void layMany() {
        if (calls > CALLS_OF_AN_OBJECT / 2) {
            return;
        }
        for (int k = 0; k < 40; k++) {
            var all = m.now.points();
            Model.P p = all.get(draw.nextInt(all.size()));
            int v = draw.nextInt(3);
            same("lays(" + p + v + ")", () -> x.lays(p.i(), p.j(), v), () -> m.lays(p.i(), p.j(), v));
        }
    }

    private void askWhatIf() {
        Model.P p = somePoint();
        int a = about(2);
        int c = someCell();
        int n = about(16);
        switch (draw.nextInt(10)) {
            case 0 -> same("finer(" + n + ")", () -> x.finer(n), () -> m.finer(n));
            case 1 -> same("within(" + c + ")", () -> x.within(c), () -> m.within(c));
            case 2 -> same("inner()", x::inner, m::inner);
            case 3 -> same("excess(" + p + ")", () -> x.excess(p.i(), p.j()), () -> m.excess(p.i(), p.j()));
            case 4 -> same("best()", x::best, m::best);
            case 5 -> same("clears()", x::clears, m::clears);
            case 6 -> same("sells(" + p + a + ")", () -> x.sells(p.i(), p.j(), a), () -> m.sells(p.i(), p.j(), a));
            case 7 -> same("were(" + p + a + ")", () -> x.were(p.i(), p.j(), a), () -> m.were(p.i(), p.j(), a));
            case 8 -> same("hangs(" + c + ")", () -> x.hangs(c), () -> m.hangs(c));
            default -> same("lone()", x::lone, m::lone);
        }
    }

    private void askDoors() {
        int kind = about(2);
        int k = about(3);
        int c = someCell();
        int o = someCell();
        int n = about(12);
        switch (draw.nextInt(10)) {
            case 0 -> same("outer(" + kind + ")", () -> x.outer(kind), () -> m.outer(kind));
            case 1 -> same("doors(" + kind + ")", () -> x.doors(kind), () -> m.doors(kind));
            case 2 -> same("walk(" + kind + " " + k + ")", () -> x.walk(kind, k), () -> m.walk(kind, k));
            case 3 -> same("step(" + kind + " " + k + " " + n + ")", () -> x.step(kind, k, n), () -> m.step(kind, k, n));
            case 4 -> same("from(" + c + " " + kind + ")", () -> x.from(c, kind), () -> m.from(c, kind));
            case 5 -> same("hidden(" + kind + ")", () -> x.hidden(kind), () -> m.hidden(kind));
            case 6 -> same("longest(" + kind + ")", () -> x.longest(kind), () -> m.longest(kind));
            case 7 -> same("crossed()", x::crossed, m::crossed);
            default -> same("leads(" + c + " " + o + " " + kind + ")", () -> x.leads(c, o, kind), () -> m.leads(c, o, kind));
        }
    }

    private void askCells() {
        Model.P p = somePoint();
        int a = about(7);
        int c = someCell();
        switch (draw.nextInt(8)) {
            case 0 -> same("label(" + p + ")", () -> x.label(p.i(), p.j()), () -> m.label(p.i(), p.j()));
            case 1 -> same("point(" + p + ")", () -> x.point(p.i(), p.j()), () -> m.point(p.i(), p.j()));
            case 2 -> same("cell(" + c + ")", () -> x.cell(c), () -> m.cell(c));
            case 3 -> same("full()", x::full, m::full);
            case 4 -> same("nth(" + a + ")", () -> x.nth(a), () -> m.nth(a));
            case 5 -> same("with(" + a + ")", () -> x.with(a), () -> m.with(a));
            case 6 -> same("many(" + a + ")", () -> x.many(a), () -> m.many(a));
            default -> same("count(" + a + ")", () -> x.count(a), () -> m.count(a));
        }
    }
}
