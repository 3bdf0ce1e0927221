import java.util.Arrays;
import java.util.NoSuchElementException;

/** Fixed cells found by walking. Words in capitals are the document's own (DOC.md, "Terms"). */
public final class DoorWalk {
    public static final int NONE = -1;

    private static final int NOT_SO = -2;
    private static final int OTHER_RULE = -3;
    private static final int CANT_BE = -4;
    private static final int BELOW_NO_ENTRY = -2;
    private static final int NO_SHEET = -3;
    private static final int SUMS_UNLIKE = -200;

    private static final int GOODS = 3;
    private static final int FIRST_GRID = 4;
    private static final int MOST_GRID = 16;
    private static final int MOST_TOLD_GRID = 10;
    private static final int MOST_POINTS = 153;
    private static final int MOST_NUMBERS = 512;
    private static final int MOST_SIGNS = 80;
    private static final int MOST_TRADERS = 4;
    private static final int MOST_ENTRIES = 160;
    private static final int MOST_YEARS = 40;
    private static final int MOST_ROW = 16;
    private static final int MOST_UNDONE = 8;
    private static final int RING = MOST_UNDONE + 1;
    private static final int MOST_KEPT = 2;
    private static final int TRADER_SIGNS = 7;

    private static final int BY_HAND = 0;
    private static final int BY_EXCHANGE = 1;
    private static final int BY_MAP = 2;

    private static final int BYTES = 0;
    private static final int SHORTS = 1;
    private static final int MISSING = 3;

    /** Corners of an UP CELL as seen from its (i, j); those of a DOWN one are 1 less these. */
    private static final int[] CORNER_I = {0, 1, 0};
    private static final int[] CORNER_J = {0, 0, 1};

    /** The six CELLS round a POINT as seen from it. */
    private static final int ROUND = 6;
    private static final int[] ROUND_I = {0, -1, 0, -1, 0, -1};
    private static final int[] ROUND_J = {0, 0, -1, -1, -1, 0};
    private static final int[] ROUND_DOWN = {0, 0, 0, 1, 1, 1};

    private final Text text = new Text();
    private final Row row = new Row();
    private final State now = new State();
    private final Grid trial = new Grid();
    private final Doors doors = new Doors();
    private final History history = new History();
    /** Made when first kept, and used again from then on. */
    private final State[] kept = new State[MOST_KEPT];

    public DoorWalk() {
    }

    // ---- texts

    public int sign(int v) {
        return text.push(v) ? text.length : NONE;
    }

    public boolean end(int n) {
        if (n < 0 || n > text.length) {
            return false;
        }
        text.length = n;
        return true;
    }

    public int labels() {
        int wrong = readLabels();
        text.length = 0;
        if (wrong != NONE) {
            return -1 - wrong;
        }
        history.note(now);
        history.hold();
        now.grid.copy(trial);
        now.rule.kind = BY_HAND;
        return now.grid.points();
    }

    public int exchange() {
        int wrong = wrongInExchange();
        int traders = (text.length + 1) / TRADER_SIGNS;
        if (wrong == NONE) {
            history.note(now);
            history.hold();
            now.rule.readExchange(text, traders);
            now.rule.layOn(now.grid);
        }
        text.length = 0;
        return wrong == NONE ? traders : -1 - wrong;
    }

    public int map() {
        int wrong = wrongInMap();
        int sum = wrong == NONE ? sumOfMap() : NONE;
        if (sum > 0) {
            history.note(now);
            history.hold();
            now.rule.readMap(text, sum);
            now.rule.layOn(now.grid);
        }
        text.length = 0;
        if (wrong != NONE) {
            return -1 - wrong;
        }
        return sum > 0 ? sum : SUMS_UNLIKE;
    }

    public int sheet(int k, int kind, int n, int f, int step) {
        if (kind < BYTES || kind > MISSING || n > MOST_ENTRIES) {
            return NONE;
        }
        if (kind == MISSING) {
            return NO_SHEET;
        }
        if (n < 0) {
            return BELOW_NO_ENTRY;
        }
        for (int e = 0; e < n; e++) {
            int fault = faultOfEntry(k, e, entryAt(kind, f, step, e));
            if (fault != 0) {
                row.tell(e, fault);
                return CANT_BE;
            }
        }
        int others = 0;
        for (int e = 0; e < n; e++) {
            int v = entryAt(kind, f, step, e);
            if (now.grid.labelOfNumber(k + e) != v) {
                others++;
            }
            now.grid.putNumber(k + e, v);
        }
        now.rule.kind = BY_HAND;
        return others;
    }

    // ---- points, cells

    public int label(int i, int j) throws NoSuchElementException {
        if (!now.grid.has(i, j)) {
            throw new NoSuchElementException("no such POINT");
        }
        return now.grid.labelAt(i, j);
    }

    public int point(int i, int j) {
        Grid g = now.grid;
        if (!g.has(i, j)) {
            return NONE;
        }
        row.tell(g.price(i, j, 0), g.price(i, j, 1), g.price(i, j, 2));
        return g.numberOf(i, j);
    }

    public int cell(int number) {
        Grid g = now.grid;
        if (!g.isCell(number)) {
            return NONE;
        }
        int turn = g.turn(number);
        row.tell(g.cornerLabel(number, 0), g.cornerLabel(number, 1), g.cornerLabel(number, 2), turn);
        return turn == 0 ? 0 : 1;
    }

    public int full() {
        Grid g = now.grid;
        g.survey();
        row.tell(g.turns, g.firstFull, g.lastFull);
        return g.full;
    }

    public int nth(int k) {
        int found = now.grid.nthFull(k);
        if (found != NONE) {
            row.tell(now.grid.turn(found));
        }
        return found;
    }

    public int with(int set) {
        if (set < 1 || set > 7) {
            return NONE;
        }
        int many = 0;
        int first = NONE;
        for (int c = 0; c < now.grid.numbers(); c++) {
            if (now.grid.isCell(c) && now.grid.labelSet(c) == set) {
                many++;
                first = first == NONE ? c : first;
            }
        }
        row.tell(first);
        return many;
    }

    public int many(int label) {
        if (!isGood(label)) {
            return NONE;
        }
        Grid g = now.grid;
        int many = 0;
        int rim = 0;
        for (int i = 0; i <= g.size; i++) {
            for (int j = 0; j <= g.size - i; j++) {
                if (g.labelAt(i, j) == label) {
                    many++;
                    rim += g.onRim(i, j) ? 1 : 0;
                }
            }
        }
        row.tell(rim);
        return many;
    }

    // ---- doors, walks

    public int outer(int kind) {
        if (!isGood(kind)) {
            return NONE;
        }
        int many = 0;
        row.clear();
        for (int t = 0; t < now.grid.size; t++) {
            if (doors.isOuter(now.grid, kind, t)) {
                row.add(now.grid.sideCell(kind, t));
                many++;
            }
        }
        return many;
    }

    public int doors(int kind) {
        if (!isGood(kind)) {
            return NONE;
        }
        Grid g = now.grid;
        int all = 0;
        int one = 0;
        int two = 0;
        for (int c = 0; c < g.numbers(); c++) {
            if (!g.isCell(c)) {
                continue;
            }
            int own = 0;
            for (int e = 0; e < GOODS; e++) {
                if (doors.isDoor(g, c, e, kind)) {
                    own++;
                    // a DOOR between two CELLS is met from both: it counts from the UP one
                    all += (c & 1) == 0 ? 1 : 0;
                }
            }
            one += own == 1 ? 1 : 0;
            two += own == 2 ? 1 : 0;
        }
        row.tell(one, two);
        return all;
    }

    public int walk(int kind, int k) {
        int place = isGood(kind) ? doors.placeOf(now.grid, kind, k) : NONE;
        if (place == NONE) {
            return NONE;
        }
        doors.enter(now.grid, kind, place);
        int last = doors.last();
        row.tell(last, now.grid.turn(last) == 0 ? 0 : 1, doors.outDoor(now.grid, kind));
        return doors.length;
    }

    public int step(int kind, int k, int n) throws NoSuchElementException {
        int place = isGood(kind) ? doors.placeOf(now.grid, kind, k) : NONE;
        if (place == NONE) {
            throw new NoSuchElementException("no such WALK");
        }
        doors.enter(now.grid, kind, place);
        if (n < 0 || n >= doors.length) {
            throw new NoSuchElementException("no such CELL of the WALK");
        }
        return doors.cellOfWay(n);
    }

    public int from(int number, int kind) {
        Grid g = now.grid;
        if (!g.isCell(number) || !isGood(kind)) {
            return NONE;
        }
        if (g.turn(number) == 0) {
            return NOT_SO;
        }
        int edge = doors.nextDoor(g, number, kind, NONE);
        int behind = g.beyond(number, edge);
        if (behind == NONE) {
            row.tell(number, doors.outersBefore(g, kind, g.sidePlace(kind, number)));
            return 0;
        }
        doors.follow(g, kind, behind, edge);
        row.tell(doors.last(), doors.outDoor(g, kind));
        return doors.length;
    }

    public int hidden(int kind) {
        if (!isGood(kind)) {
            return NONE;
        }
        doors.clearSeen();
        doors.seeWalks(now.grid, kind);
        int many = 0;
        int first = NONE;
        for (int c = 0; c < now.grid.numbers(); c++) {
            if (now.grid.turn(c) != 0 && doors.seenBy(c) == 0) {
                many++;
                first = first == NONE ? c : first;
            }
        }
        row.tell(first);
        return many;
    }

    public int longest(int kind) {
        if (!isGood(kind)) {
            return NONE;
        }
        doors.clearSeen();
        int best = doors.seeWalks(now.grid, kind);
        if (best == NONE) {
            return NOT_SO;
        }
        int apart = 0;
        for (int c = 0; c < now.grid.numbers(); c++) {
            apart += now.grid.isCell(c) && doors.seenBy(c) == 0 ? 1 : 0;
        }
        row.tell(doors.longest, apart);
        return best;
    }

    public int crossed() {
        doors.clearSeen();
        for (int kind = 0; kind < GOODS; kind++) {
            doors.seeWalks(now.grid, kind);
        }
        int many = 0;
        int full = 0;
        for (int c = 0; c < now.grid.numbers(); c++) {
            if (doors.seenBy(c) == 7) {
                many++;
                full += now.grid.turn(c) == 0 ? 0 : 1;
            }
        }
        row.tell(full);
        return many;
    }

    public int leads(int number, int other, int kind) {
        Grid g = now.grid;
        if (!g.isCell(number) || !g.isCell(other) || !isGood(kind)) {
            return NONE;
        }
        if (number == other) {
            return 1;
        }
        int fewest = NOT_SO;
        // doors of a kind may lie in a ring: both ways round have to be tried
        for (int e = 0; e < GOODS; e++) {
            if (doors.isDoor(g, number, e, kind)) {
                int through = doors.cellsTo(g, kind, number, e, other);
                if (through != NONE && (fewest == NOT_SO || through < fewest)) {
                    fewest = through;
                }
            }
        }
        return fewest;
    }

    // ---- finer, coarser

    public int finer(int n) {
        if (!isGrid(n)) {
            return NONE;
        }
        if (now.rule.kind == BY_HAND) {
            return OTHER_RULE;
        }
        layTrial(n);
        trial.survey();
        row.tell(trial.turns, trial.firstFull);
        return trial.full;
    }

    public int within(int number) {
        Grid g = now.grid;
        if (!g.isCell(number)) {
            return NONE;
        }
        if (now.rule.kind == BY_HAND) {
            return OTHER_RULE;
        }
        if (2 * g.size > MOST_GRID) {
            return CANT_BE;
        }
        layTrial(2 * g.size);
        int i = 2 * g.cellI(number);
        int j = 2 * g.cellJ(number);
        if ((number & 1) == 0) {
            row.tell(trial.cellAt(i, j, 0), trial.cellAt(i, j, 1), trial.cellAt(i, j + 1, 0), trial.cellAt(i + 1, j, 0));
        } else {
            row.tell(trial.cellAt(i, j + 1, 1), trial.cellAt(i + 1, j, 1), trial.cellAt(i + 1, j + 1, 0), trial.cellAt(i + 1, j + 1, 1));
        }
        int many = 0;
        for (int k = 0; k < row.length; k++) {
            many += trial.turn((int) row.at(k)) == 0 ? 0 : 1;
        }
        return many;
    }

    public int inner() {
        if (now.rule.kind == BY_HAND) {
            return OTHER_RULE;
        }
        for (int n = now.grid.size; n <= MOST_GRID; n++) {
            layTrial(n);
            trial.survey();
            if (trial.firstFull != NONE && trial.isApart(trial.firstFull)) {
                row.tell(trial.firstFull);
                return n;
            }
        }
        return NOT_SO;
    }

    // ---- prices

    public int excess(int i, int j) {
        if (!now.grid.has(i, j)) {
            return NONE;
        }
        if (now.rule.kind != BY_EXCHANGE) {
            return OTHER_RULE;
        }
        Rule r = now.rule;
        Grid g = now.grid;
        row.tell(r.pull(g, i, j, 0), r.pull(g, i, j, 1), r.pull(g, i, j, 2), r.off(g, i, j));
        return 0;
    }

    public int best() {
        if (now.rule.kind != BY_EXCHANGE) {
            return OTHER_RULE;
        }
        Grid g = now.grid;
        int bestI = 0;
        int bestJ = 0;
        long least = now.rule.off(g, 0, 0);
        for (int i = 0; i <= g.size; i++) {
            for (int j = 0; j <= g.size - i; j++) {
                long off = now.rule.off(g, i, j);
                if (off < least) {
                    least = off;
                    bestI = i;
                    bestJ = j;
                }
            }
        }
        row.tell(bestI, bestJ, least);
        return g.numberOf(bestI, bestJ);
    }

    public int clears() {
        if (now.rule.kind != BY_EXCHANGE) {
            return OTHER_RULE;
        }
        Grid g = now.grid;
        int found = NONE;
        int corner = 0;
        long least = 0;
        for (int c = 0; c < g.numbers(); c++) {
            if (g.turn(c) == 0) {
                continue;
            }
            for (int k = 0; k < GOODS; k++) {
                long off = now.rule.off(g, g.cornerI(c, k), g.cornerJ(c, k));
                if (found == NONE || off < least) {
                    found = c;
                    corner = k;
                    least = off;
                }
            }
        }
        if (found == NONE) {
            return NOT_SO;
        }
        row.tell(g.cornerI(found, corner), g.cornerJ(found, corner), least, now.rule.lessOff(g, least));
        return found;
    }

    public int sells(int i, int j, int g) {
        if (!now.grid.has(i, j) || !isGood(g)) {
            return NONE;
        }
        if (now.rule.kind != BY_EXCHANGE) {
            return OTHER_RULE;
        }
        int set = 0;
        for (int t = 0; t < now.rule.traders; t++) {
            if (now.rule.hasEnough(now.grid, i, j, t, g)) {
                set |= 1 << t;
            }
        }
        row.tell(Integer.bitCount(set));
        return set;
    }

    // ---- what would be

    public int were(int i, int j, int v) {
        Grid g = now.grid;
        if (!g.has(i, j) || !isGood(v)) {
            return NONE;
        }
        if (!g.canHave(i, j, v)) {
            return CANT_BE;
        }
        trial.copy(g);
        trial.put(i, j, v);
        int fresh = 0;
        for (int k = 0; k < ROUND; k++) {
            fresh += trial.turnRound(i, j, k) != 0 && g.turnRound(i, j, k) == 0 ? 1 : 0;
        }
        trial.survey();
        row.tell(trial.turns, fresh);
        return trial.full;
    }

    public int hangs(int number) {
        Grid g = now.grid;
        if (!g.isCell(number)) {
            return NONE;
        }
        if (g.turn(number) == 0) {
            return NOT_SO;
        }
        int many = 0;
        row.clear();
        for (int k = 0; k < GOODS; k++) {
            int other = looseLabel(g.cornerI(number, k), g.cornerJ(number, k));
            row.add(other);
            many += other == NONE ? 0 : 1;
        }
        return many;
    }

    public int lone() {
        Grid g = now.grid;
        int full = g.fullCells();
        if (full == 1) {
            row.tell(full, NONE, NONE);
            return 0;
        }
        for (int i = 0; i <= g.size; i++) {
            for (int j = 0; j <= g.size - i; j++) {
                int other = labelForOne(i, j, full);
                if (other != NONE) {
                    row.tell(full, g.numberOf(i, j), other);
                    return 1;
                }
            }
        }
        return NOT_SO;
    }

    // ---- changes

    public int lays(int i, int j, int v) {
        history.note(now);
        return held(layLabel(i, j, v));
    }

    public int grid(int n) {
        history.note(now);
        return held(changeGrid(n));
    }

    public int swaps(int i, int j, int i2, int j2) {
        history.note(now);
        return held(swapLabels(i, j, i2, j2));
    }

    public int amounts(int trader, int good, int v) {
        history.note(now);
        return held(changeAmount(trader, good, v));
    }

    public int day() {
        int wrong = wrongInDay();
        if (wrong != NONE) {
            text.length = 0;
            return -1 - wrong;
        }
        history.note(now);
        int done = 0;
        boolean stopped = false;
        int p = 0;
        while (p < text.length && !stopped) {
            stopped = doAct(p) < 0;
            done += stopped ? 0 : 1;
            p += 1 + digitsOfAct(text.at(p));
        }
        if (done > 0) {
            history.hold();
        }
        text.length = 0;
        row.tell(stopped ? 1 : 0, now.grid.fullCells());
        return done;
    }

    public int undo() {
        return history.back(now) ? history.size : NONE;
    }

    public int years(int seed, int n) {
        if (n < 1 || n > MOST_YEARS) {
            return NONE;
        }
        // all of it is forgotten once it is told: it is done on the trial GRID alone
        trial.copy(now.grid);
        int r = seed;
        for (int k = 0; k < n; k++) {
            r = nextDraw(r);
            int p = drawn(r, trial.points());
            r = nextDraw(r);
            trial.lay(trial.pointI(p), trial.pointJ(p), drawn(r, GOODS));
        }
        trial.survey();
        row.tell(trial.turns, doors.outers(trial, 0), doors.outers(trial, 1), doors.outers(trial, 2));
        return trial.full;
    }

    // ---- kept

    public boolean keep(int i) {
        if (i < 0 || i >= MOST_KEPT) {
            return false;
        }
        if (kept[i] == null) {
            kept[i] = new State();
        }
        kept[i].copy(now);
        return true;
    }

    public boolean again(int i) {
        if (i < 0 || i >= MOST_KEPT || kept[i] == null) {
            return false;
        }
        now.copy(kept[i]);
        history.size = 0;
        return true;
    }

    public int count(int what) {
        switch (what) {
            case 0:
                return now.grid.size;
            case 1:
                return now.grid.points();
            case 2:
                return now.grid.size * now.grid.size;
            case 3:
                return now.rule.kind;
            case 4:
                return now.rule.kind == BY_EXCHANGE ? now.rule.traders : 0;
            case 5:
                return now.grid.fullCells();
            case 6:
                return history.size;
            case 7:
                return row.length;
            case 8:
                return text.length;
            default:
                return NONE;
        }
    }

    public long row(int i) throws NoSuchElementException {
        if (i < 0 || i >= row.length) {
            throw new NoSuchElementException("the ROW has no such number");
        }
        return row.at(i);
    }

    // ---- reading THE TEXT: these answer the place of the first sign that can't stand there, or NONE

    /** Lays what it reads on the trial GRID, so that a text that is wrong further on changes nothing. */
    private int readLabels() {
        if (text.digit(0) == NONE) {
            return 0;
        }
        if (text.digit(1) == NONE || text.twoDigits(0) < 1 || text.twoDigits(0) > MOST_TOLD_GRID) {
            return 1;
        }
        trial.size = text.twoDigits(0);
        int p = 2;
        for (int i = 0; i <= trial.size; i++) {
            for (int j = 0; j <= trial.size - i; j++) {
                if (!trial.canHave(i, j, text.digit(p))) {
                    return p;
                }
                trial.put(i, j, text.digit(p));
                p++;
            }
        }
        return p < text.length ? p : NONE;
    }

    private int wrongInExchange() {
        for (int t = 0; t < MOST_TRADERS; t++) {
            int start = TRADER_SIGNS * t;
            int behind = start + TRADER_SIGNS - 1;
            for (int p = start; p < behind; p++) {
                int least = p - start < GOODS ? 0 : 1;
                if (text.digit(p) < least) {
                    return p;
                }
            }
            if (behind == text.length) {
                return NONE;
            }
            if (text.at(behind) != ';' || t == MOST_TRADERS - 1) {
                return behind;
            }
        }
        return NONE;
    }

    private int wrongInMap() {
        for (int p = 0; p < GOODS * GOODS; p++) {
            if (text.digit(p) == NONE) {
                return p;
            }
        }
        return text.length > GOODS * GOODS ? GOODS * GOODS : NONE;
    }

    /** S of the MAP that THE TEXT tells; NONE if the sums are unlike. */
    private int sumOfMap() {
        int sum = text.digit(0) + text.digit(3) + text.digit(6);
        for (int h = 1; h < GOODS; h++) {
            if (text.digit(h) + text.digit(h + 3) + text.digit(h + 6) != sum) {
                return NONE;
            }
        }
        return sum;
    }

    private int wrongInDay() {
        int p = 0;
        while (p < text.length) {
            int digits = digitsOfAct(text.at(p));
            if (digits == 0) {
                return p;
            }
            for (int d = 1; d <= digits; d++) {
                if (text.digit(p + d) == NONE) {
                    return p + d;
                }
            }
            p += 1 + digits;
        }
        return NONE;
    }

    /** How many digits come behind an ACT's letter; 0 if it is none. */
    private static int digitsOfAct(int letter) {
        switch (letter) {
            case 'l':
                return 5;
            case 'g':
                return 2;
            case 's':
                return 8;
            case 'a':
                return 3;
            default:
                return 0;
        }
    }

    private int doAct(int p) {
        switch (text.at(p)) {
            case 'l':
                return layLabel(text.twoDigits(p + 1), text.twoDigits(p + 3), text.digit(p + 5));
            case 'g':
                return changeGrid(text.twoDigits(p + 1));
            case 's':
                return swapLabels(text.twoDigits(p + 1), text.twoDigits(p + 3), text.twoDigits(p + 5), text.twoDigits(p + 7));
            case 'a':
                return changeAmount(text.digit(p + 1), text.digit(p + 2), text.digit(p + 3));
            default:
                return NONE;
        }
    }

    // ---- a sheet's entries

    private static int entryAt(int kind, int f, int step, int e) {
        int v = f + step * e;
        if (kind == BYTES) {
            return (byte) v;
        }
        return kind == SHORTS ? (short) v : v;
    }

    /** 1: there is no such POINT, 2: it can't have that LABEL, 0: neither. */
    private int faultOfEntry(int k, int e, int v) {
        Grid g = now.grid;
        int p = k + e;
        if (k < 0 || p < 0 || p >= g.points()) {
            return 1;
        }
        return g.canHave(g.pointI(p), g.pointJ(p), v) ? 0 : 2;
    }

    // ---- changes that a call or A DAY makes; these answer as the calls do and note nothing

    private int layLabel(int i, int j, int v) {
        int was = now.grid.lay(i, j, v);
        if (was >= 0) {
            now.rule.kind = BY_HAND;
        }
        return was;
    }

    private int changeGrid(int n) {
        if (!isGrid(n)) {
            return NONE;
        }
        if (n == now.grid.size) {
            return NOT_SO;
        }
        if (now.rule.kind == BY_HAND) {
            return OTHER_RULE;
        }
        now.grid.size = n;
        now.rule.layOn(now.grid);
        return now.grid.fullCells();
    }

    private int swapLabels(int i, int j, int i2, int j2) {
        Grid g = now.grid;
        if (!g.has(i, j) || !g.has(i2, j2) || i == i2 && j == j2) {
            return NONE;
        }
        int one = g.labelAt(i, j);
        int two = g.labelAt(i2, j2);
        if (one == two) {
            return NOT_SO;
        }
        if (!g.canHave(i, j, two) || !g.canHave(i2, j2, one)) {
            return CANT_BE;
        }
        g.put(i, j, two);
        g.put(i2, j2, one);
        now.rule.kind = BY_HAND;
        return g.fullCells();
    }

    private int changeAmount(int trader, int good, int v) {
        Rule r = now.rule;
        if (trader < 0 || trader >= MOST_TRADERS || !isGood(good) || v < 0 || v > 9) {
            return NONE;
        }
        if (r.kind != BY_EXCHANGE) {
            return OTHER_RULE;
        }
        if (trader >= r.traders) {
            return NONE;
        }
        int was = r.amount(trader, good);
        if (was == v) {
            return NOT_SO;
        }
        r.setAmount(trader, good, v);
        r.setPulls();
        r.layOn(now.grid);
        return was;
    }

    /** Makes the noted state one that can be undone, if the call was done. */
    private int held(int answer) {
        if (answer >= 0) {
            history.hold();
        }
        return answer;
    }

    // ---- small helps

    private static boolean isGood(int v) {
        return v >= 0 && v < GOODS;
    }

    private static boolean isGrid(int n) {
        return n >= 1 && n <= MOST_GRID;
    }

    private static int nextDraw(int r) {
        return r * 1103515245 + 12345;
    }

    private static int drawn(int r, int n) {
        return n < 1 ? 0 : (r >>> 16) % n;
    }

    private void layTrial(int n) {
        trial.size = n;
        now.rule.layOn(trial);
    }

    /** The first other LABEL of a POINT of a FULL CELL by which there are no fewer FULL ones. */
    private int looseLabel(int i, int j) {
        Grid g = now.grid;
        for (int v = 0; v < GOODS; v++) {
            if (v != g.labelAt(i, j) && g.canHave(i, j, v) && g.gain(i, j, v) >= 0) {
                return v;
            }
        }
        return NONE;
    }

    /** The first other LABEL of a POINT by which one CELL alone is FULL. */
    private int labelForOne(int i, int j, int full) {
        Grid g = now.grid;
        for (int v = 0; v < GOODS; v++) {
            if (v != g.labelAt(i, j) && g.canHave(i, j, v) && full + g.gain(i, j, v) == 1) {
                return v;
            }
        }
        return NONE;
    }

    /** THE TEXT. */
    private static final class Text {
        final int[] signs = new int[MOST_SIGNS];
        int length = 0;

        boolean push(int v) {
            if (length < 0 || length + 4 > MOST_SIGNS) {
                return false;
            }
            signs[length] = v >>> 24;
            signs[length + 1] = v >>> 16 & 255;
            signs[length + 2] = v >>> 8 & 255;
            signs[length + 3] = v & 255;
            length += 4;
            return true;
        }

        /** NONE at its end and behind it. */
        int at(int p) {
            return p >= 0 && p < length && p < MOST_SIGNS ? signs[p] : NONE;
        }

        /** NONE if there is no digit. */
        int digit(int p) {
            int s = at(p);
            return s >= '0' && s <= '9' ? s - '0' : NONE;
        }

        /** Only where two digits are known to stand. */
        int twoDigits(int p) {
            return 10 * digit(p) + digit(p + 1);
        }
    }

    /** The ROW. */
    private static final class Row {
        final long[] numbers = new long[MOST_ROW];
        int length = 0;

        void clear() {
            length = 0;
        }

        void add(long x) {
            if (length >= 0 && length < MOST_ROW) {
                numbers[length] = x;
                length++;
            }
        }

        void tell(long a) {
            clear();
            add(a);
        }

        void tell(long a, long b) {
            tell(a);
            add(b);
        }

        void tell(long a, long b, long c) {
            tell(a, b);
            add(c);
        }

        void tell(long a, long b, long c, long d) {
            tell(a, b, c);
            add(d);
        }

        long at(int i) {
            return i >= 0 && i < length && i < MOST_ROW ? numbers[i] : NONE;
        }
    }

    /** A GRID with a LABEL at each of its POINTS, and its CELLS. */
    private static final class Grid {
        final int[] marks = new int[MOST_POINTS];
        int size = FIRST_GRID;
        int full = 0;
        int turns = 0;
        int firstFull = NONE;
        int lastFull = NONE;

        Grid() {
            for (int i = 0; i <= size; i++) {
                for (int j = 0; j <= size - i; j++) {
                    put(i, j, i > 0 ? 0 : j > 0 ? 1 : 2);
                }
            }
        }

        void copy(Grid other) {
            size = other.size;
            System.arraycopy(other.marks, 0, marks, 0, MOST_POINTS);
        }

        // ---- POINTS

        boolean has(int i, int j) {
            return i >= 0 && j >= 0 && i <= size && j <= size - i;
        }

        int points() {
            return (size + 1) * (size + 2) / 2;
        }

        int numberOf(int i, int j) {
            return i * (size + 1) - i * (i - 1) / 2 + j;
        }

        /** The number of (i and 1, j), where (i, j) has the number here. */
        int overOf(int i, int here) {
            return here + size + 1 - i;
        }

        /** The i of the POINT of a number. */
        int pointI(int p) {
            int left = p;
            for (int i = 0; i <= size; i++) {
                if (left <= size - i) {
                    return i;
                }
                left -= size - i + 1;
            }
            return size;
        }

        int pointJ(int p) {
            return p - numberOf(pointI(p), 0);
        }

        int price(int i, int j, int good) {
            if (good == 0) {
                return i;
            }
            return good == 1 ? j : size - i - j;
        }

        boolean onRim(int i, int j) {
            return i == 0 || j == 0 || i + j == size;
        }

        boolean canHave(int i, int j, int v) {
            return isGood(v) && price(i, j, v) != 0;
        }

        int labelOfNumber(int p) {
            return p >= 0 && p < MOST_POINTS ? marks[p] : NONE;
        }

        void putNumber(int p, int v) {
            if (p >= 0 && p < MOST_POINTS) {
                marks[p] = v;
            }
        }

        int labelAt(int i, int j) {
            return labelOfNumber(numberOf(i, j));
        }

        void put(int i, int j, int v) {
            putNumber(numberOf(i, j), v);
        }

        /** Answers as lays() does; nothing is put where that refuses. */
        int lay(int i, int j, int v) {
            if (!has(i, j) || !isGood(v)) {
                return NONE;
            }
            int was = labelAt(i, j);
            if (was == v) {
                return NOT_SO;
            }
            if (!canHave(i, j, v)) {
                return CANT_BE;
            }
            put(i, j, v);
            return was;
        }

        // ---- CELLS

        /** NUMBERS of CELLS lie below it; not each number below it is one. */
        int numbers() {
            return 2 * size * size;
        }

        boolean isCell(int number) {
            return number >= 0 && number < 2 * size * size && cellI(number) + cellJ(number) + (number & 1) < size;
        }

        int cellI(int number) {
            return size < 1 ? 0 : (number >> 1) / size;
        }

        int cellJ(int number) {
            return size < 1 ? 0 : (number >> 1) % size;
        }

        /** The NUMBER of a CELL; NONE if there is none such. */
        int cellAt(int i, int j, int down) {
            return i < 0 || j < 0 || i + j + down >= size ? NONE : 2 * (size * i + j) + down;
        }

        int cornerI(int number, int corner) {
            if (corner < 0 || corner >= GOODS) {
                return 0;
            }
            int more = (number & 1) == 0 ? CORNER_I[corner] : 1 - CORNER_I[corner];
            return cellI(number) + more;
        }

        int cornerJ(int number, int corner) {
            if (corner < 0 || corner >= GOODS) {
                return 0;
            }
            int more = (number & 1) == 0 ? CORNER_J[corner] : 1 - CORNER_J[corner];
            return cellJ(number) + more;
        }

        int cornerLabel(int number, int corner) {
            int i = cellI(number);
            int here = numberOf(i, cellJ(number));
            int over = overOf(i, here);
            boolean up = (number & 1) == 0;
            if (corner == 0) {
                return labelOfNumber(up ? here : over + 1);
            }
            if (corner == 1) {
                return labelOfNumber(up ? over : here + 1);
            }
            return labelOfNumber(up ? here + 1 : over);
        }

        int labelSet(int number) {
            return 1 << cornerLabel(number, 0) | 1 << cornerLabel(number, 1) | 1 << cornerLabel(number, 2);
        }

        /** TURN; 0 if it is not FULL, or no CELL. */
        int turn(int number) {
            return isCell(number) ? turnAt(cellI(number), cellJ(number), number & 1) : 0;
        }

        /** TURN of UP (i, j), or DOWN (i, j); 0 if it is not FULL, or no CELL. */
        int turnAt(int i, int j, int down) {
            if (i < 0 || j < 0 || i + j + down >= size) {
                return 0;
            }
            int here = numberOf(i, j);
            int over = overOf(i, here);
            if (down == 0) {
                return turnOf(labelOfNumber(here), labelOfNumber(over), labelOfNumber(here + 1));
            }
            return turnOf(labelOfNumber(over + 1), labelOfNumber(here + 1), labelOfNumber(over));
        }

        static int turnOf(int a, int b, int c) {
            if (a == b || b == c || a == c) {
                return 0;
            }
            return b == (a + 1) % GOODS ? 1 : -1;
        }

        /** Finds all FULL CELLS anew, by their NUMBERS; what it finds is good till a LABEL changes. */
        void survey() {
            full = 0;
            turns = 0;
            firstFull = NONE;
            lastFull = NONE;
            for (int i = 0; i < size; i++) {
                for (int j = 0; j < size - i; j++) {
                    take(2 * (size * i + j), turnAt(i, j, 0));
                    take(2 * (size * i + j) + 1, turnAt(i, j, 1));
                }
            }
        }

        void take(int number, int turn) {
            if (turn != 0) {
                full++;
                turns += turn;
                firstFull = firstFull == NONE ? number : firstFull;
                lastFull = number;
            }
        }

        int fullCells() {
            survey();
            return full;
        }

        int nthFull(int k) {
            int before = 0;
            for (int c = 0; c < numbers(); c++) {
                if (turn(c) != 0) {
                    if (before == k) {
                        return c;
                    }
                    before++;
                }
            }
            return NONE;
        }

        boolean isApart(int number) {
            for (int k = 0; k < GOODS; k++) {
                if (onRim(cornerI(number, k), cornerJ(number, k))) {
                    return false;
                }
            }
            return true;
        }

        /** How many more CELLS would be FULL, were the LABEL of a POINT v. */
        int gain(int i, int j, int v) {
            int was = labelAt(i, j);
            int before = fullRound(i, j);
            put(i, j, v);
            int then = fullRound(i, j);
            put(i, j, was);
            return then - before;
        }

        int fullRound(int i, int j) {
            int many = 0;
            for (int k = 0; k < ROUND; k++) {
                many += turnRound(i, j, k) == 0 ? 0 : 1;
            }
            return many;
        }

        /** TURN of one of the six CELLS round a POINT. */
        int turnRound(int i, int j, int k) {
            return k < 0 || k >= ROUND ? 0 : turnAt(i + ROUND_I[k], j + ROUND_J[k], ROUND_DOWN[k]);
        }

        // ---- edges of CELLS: edge k is the one that lacks corner k; both its CELLS call it k

        /** The CELL on the other side of an edge; NONE on the rim. */
        int beyond(int number, int edge) {
            int i = cellI(number);
            int j = cellJ(number);
            int way = (number & 1) == 0 ? -1 : 1;
            int down = 1 - (number & 1);
            if (edge == 1) {
                return cellAt(i + way, j, down);
            }
            return cellAt(i, edge == 2 ? j + way : j, down);
        }

        /** CELL number t along the side of which PRICE d is 0. */
        int sideCell(int d, int t) {
            if (d == 0) {
                return cellAt(0, t, 0);
            }
            return d == 1 ? cellAt(t, 0, 0) : cellAt(size - 1 - t, t, 0);
        }

        /** Where a CELL is along that side. */
        int sidePlace(int d, int number) {
            return d == 1 ? cellI(number) : cellJ(number);
        }
    }

    /** DOORS of a GRID, and the way that was followed last through them. */
    private static final class Doors {
        final int[] way = new int[MOST_NUMBERS];
        final int[] seen = new int[MOST_NUMBERS];
        int length = 0;
        boolean cameOut = false;
        int longest = 0;

        /** Whether an edge of a CELL that there is is a DOOR. */
        boolean isDoor(Grid g, int number, int edge, int kind) {
            int a = g.cornerLabel(number, (edge + 1) % GOODS);
            int b = g.cornerLabel(number, (edge + 2) % GOODS);
            return a != b && a != kind && b != kind;
        }

        /** A DOOR of a CELL other than the one it was entered by; NONE if there is no way on. */
        int nextDoor(Grid g, int number, int kind, int entered) {
            for (int e = 0; e < GOODS; e++) {
                if (e != entered && isDoor(g, number, e, kind)) {
                    return e;
                }
            }
            return NONE;
        }

        // ---- OUTER DOORS, at places 0, 1, .. along their side

        /** The edge by which an UP CELL touches the side of which PRICE kind is 0. */
        int sideEdge(int kind) {
            return (kind + 1) % GOODS;
        }

        boolean isOuter(Grid g, int kind, int place) {
            return isDoor(g, g.sideCell(kind, place), sideEdge(kind), kind);
        }

        /** So many OUTER DOORS lie before a place; it is the number of the one that lies there. */
        int outersBefore(Grid g, int kind, int place) {
            int many = 0;
            for (int t = 0; t < place; t++) {
                many += isOuter(g, kind, t) ? 1 : 0;
            }
            return many;
        }

        int outers(Grid g, int kind) {
            return outersBefore(g, kind, g.size);
        }

        /** Where OUTER DOOR k is. */
        int placeOf(Grid g, int kind, int k) {
            int before = 0;
            for (int t = 0; t < g.size; t++) {
                if (isOuter(g, kind, t)) {
                    if (before == k) {
                        return t;
                    }
                    before++;
                }
            }
            return NONE;
        }

        // ---- ways

        void enter(Grid g, int kind, int place) {
            follow(g, kind, g.sideCell(kind, place), sideEdge(kind));
        }

        /** Goes on from a CELL, entered through an edge, till there is no way on. */
        void follow(Grid g, int kind, int first, int entered) {
            length = 0;
            cameOut = false;
            int c = first;
            int edge = entered;
            while (c != NONE && length < MOST_NUMBERS) {
                way[length] = c;
                length++;
                edge = nextDoor(g, c, kind, edge);
                if (edge == NONE) {
                    return;
                }
                c = g.beyond(c, edge);
            }
            cameOut = true;
        }

        int cellOfWay(int n) {
            return n >= 0 && n < length && n < MOST_NUMBERS ? way[n] : NONE;
        }

        int last() {
            return cellOfWay(length - 1);
        }

        /** The OUTER DOOR through which the way came out; NONE if it did not. */
        int outDoor(Grid g, int kind) {
            return cameOut ? outersBefore(g, kind, g.sidePlace(kind, last())) : NONE;
        }

        /** How many CELLS one goes through from one CELL through an edge to another; NONE if it does not come there. */
        int cellsTo(Grid g, int kind, int start, int first, int goal) {
            int c = start;
            int edge = first;
            for (int through = 2; through <= MOST_NUMBERS; through++) {
                c = g.beyond(c, edge);
                if (c == goal) {
                    return through;
                }
                if (c == NONE || c == start) {
                    return NONE;
                }
                edge = nextDoor(g, c, kind, edge);
                if (edge == NONE) {
                    return NONE;
                }
            }
            return NONE;
        }

        // ---- which CELLS WALKS go through, as bits of kinds

        void clearSeen() {
            Arrays.fill(seen, 0);
        }

        int seenBy(int number) {
            return number >= 0 && number < MOST_NUMBERS ? seen[number] : 0;
        }

        /** Marks the CELLS of all WALKS of a kind: the DOOR of the longest (NONE without), that one's length is left. */
        int seeWalks(Grid g, int kind) {
            int best = NONE;
            int k = 0;
            longest = 0;
            for (int t = 0; t < g.size; t++) {
                if (!isOuter(g, kind, t)) {
                    continue;
                }
                follow(g, kind, g.sideCell(kind, t), sideEdge(kind));
                seeWay(kind);
                if (length > longest) {
                    longest = length;
                    best = k;
                }
                k++;
            }
            return best;
        }

        void seeWay(int kind) {
            for (int n = 0; n < length; n++) {
                int c = cellOfWay(n);
                if (c >= 0 && c < MOST_NUMBERS) {
                    seen[c] |= 1 << kind;
                }
            }
        }
    }

    /** RULE with its EXCHANGE or MAP. */
    private static final class Rule {
        final int[] owned = new int[MOST_TRADERS * GOODS];
        final int[] wished = new int[MOST_TRADERS * GOODS];
        /** By rows: what one of PRICE h adds to the pull of GOOD g. Both RULES go by such sums. */
        final long[] pulls = new long[GOODS * GOODS];
        int kind = BY_HAND;
        int traders = 0;

        void copy(Rule other) {
            kind = other.kind;
            traders = other.traders;
            System.arraycopy(other.owned, 0, owned, 0, owned.length);
            System.arraycopy(other.wished, 0, wished, 0, wished.length);
            System.arraycopy(other.pulls, 0, pulls, 0, pulls.length);
        }

        void readExchange(Text text, int many) {
            kind = BY_EXCHANGE;
            traders = Math.min(many, MOST_TRADERS);
            for (int t = 0; t < traders; t++) {
                for (int g = 0; g < GOODS; g++) {
                    owned[GOODS * t + g] = text.digit(TRADER_SIGNS * t + g);
                    wished[GOODS * t + g] = text.digit(TRADER_SIGNS * t + GOODS + g);
                }
            }
            setPulls();
        }

        void readMap(Text text, int sum) {
            kind = BY_MAP;
            for (int g = 0; g < GOODS; g++) {
                for (int h = 0; h < GOODS; h++) {
                    pulls[GOODS * g + h] = text.digit(GOODS * g + h) - (g == h ? sum : 0);
                }
            }
        }

        int amount(int trader, int good) {
            int at = GOODS * trader + good;
            return at >= 0 && at < owned.length ? owned[at] : 0;
        }

        int wish(int trader, int good) {
            int at = GOODS * trader + good;
            return at >= 0 && at < wished.length ? wished[at] : 0;
        }

        void setAmount(int trader, int good, int v) {
            int at = GOODS * trader + good;
            if (at >= 0 && at < owned.length) {
                owned[at] = v;
            }
        }

        int wishes(int trader) {
            return wish(trader, 0) + wish(trader, 1) + wish(trader, 2);
        }

        /** The product of SUMS of WISHES of all TRADERS but one. */
        long productWithout(int trader) {
            long product = 1;
            for (int t = 0; t < traders; t++) {
                product *= t == trader ? 1 : wishes(t);
            }
            return product;
        }

        /** EXCESS of a GOOD is a sum of PRICES, each so many times: that is what is kept of the EXCHANGE. */
        void setPulls() {
            long all = productWithout(NONE);
            for (int g = 0; g < GOODS; g++) {
                for (int h = 0; h < GOODS; h++) {
                    long sum = 0;
                    for (int t = 0; t < traders; t++) {
                        sum += amount(t, h) * wish(t, g) * productWithout(t);
                        sum -= g == h ? all * amount(t, g) : 0;
                    }
                    pulls[GOODS * g + h] = sum;
                }
            }
        }

        /** By EXCHANGE the EXCESS of a GOOD; by MAP what it would have less S times its PRICE. */
        long pull(Grid grid, int i, int j, int good) {
            if (!isGood(good)) {
                return 0;
            }
            int at = GOODS * good;
            return pulls[at] * i + pulls[at + 1] * j + pulls[at + 2] * grid.price(i, j, 2);
        }

        long off(Grid grid, int i, int j) {
            long most = 0;
            for (int g = 0; g < GOODS; g++) {
                most = Math.max(most, Math.abs(pull(grid, i, j, g)));
            }
            return most;
        }

        int lessOff(Grid grid, long than) {
            int many = 0;
            for (int i = 0; i <= grid.size; i++) {
                for (int j = 0; j <= grid.size - i; j++) {
                    many += off(grid, i, j) < than ? 1 : 0;
                }
            }
            return many;
        }

        /** Both sides are taken SUM of WISHES times, so that nothing is rounded. */
        boolean hasEnough(Grid grid, int i, int j, int trader, int good) {
            int income = 0;
            for (int h = 0; h < GOODS; h++) {
                income += grid.price(i, j, h) * amount(trader, h);
            }
            return income * wish(trader, good) <= grid.price(i, j, good) * amount(trader, good) * wishes(trader);
        }

        void layOn(Grid grid) {
            for (int i = 0; i <= grid.size; i++) {
                for (int j = 0; j <= grid.size - i; j++) {
                    grid.put(i, j, labelFor(grid, i, j));
                }
            }
        }

        int labelFor(Grid grid, int i, int j) {
            int found = NONE;
            long least = 0;
            for (int g = 0; g < GOODS; g++) {
                if (grid.price(i, j, g) == 0) {
                    continue;
                }
                long x = pull(grid, i, j, g);
                if (kind == BY_MAP && x <= 0) {
                    return g;
                }
                if (found == NONE || x < least) {
                    found = g;
                    least = x;
                }
            }
            return found;
        }
    }

    /** All that the document's Terms, 1. tells of. */
    private static final class State {
        final Grid grid = new Grid();
        final Rule rule = new Rule();

        void copy(State other) {
            grid.copy(other.grid);
            rule.copy(other.rule);
        }
    }

    /**
     * States that undo() goes back to, in a ring with one place to spare for a call that may yet be refused. They are
     * made when the ring first comes to them, and used again from then on.
     */
    private static final class History {
        final State[] ring = new State[RING];
        int next = 0;
        int size = 0;

        /** Writes a state down in the spare place; it counts once it is held. */
        void note(State state) {
            if (next < 0 || next >= RING) {
                return;
            }
            if (ring[next] == null) {
                ring[next] = new State();
            }
            ring[next].copy(state);
        }

        void hold() {
            next = (next + 1) % RING;
            size = Math.min(size + 1, MOST_UNDONE);
        }

        boolean back(State state) {
            if (size < 1) {
                return false;
            }
            size--;
            next = (next + MOST_UNDONE) % RING;
            if (next >= 0 && next < RING && ring[next] != null) {
                state.copy(ring[next]);
            }
            return true;
        }
    }
}
