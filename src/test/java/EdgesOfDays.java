/** Boundary cases of promises 38 to 40: day, undo, years. */
final class EdgesOfDays {
    private static final int MAX = Integer.MAX_VALUE;
    private static final int MIN = Integer.MIN_VALUE;
    private static final String FIRST = "211110000000000";

    /** Each kind of ACT once, all of which can be done by Twins.byExchange(): ends at 4, 7, 13, 22. */
    private static final String FOUR = "a019" + "g04" + "l01010" + "s01010201";

    private EdgesOfDays() {
    }

    static void run() {
        dayEmpty();
        dayEnd();
        daySigns();
        dayStops();
        dayStopsAtEach();
        dayLongest();
        undoNone();
        undoEight();
        undoOfEach();
        undoOfDay();
        undoForgotten();
        years();
        yearsForgotten();
        yearsRefusals();
        draws();
    }

    private static int day(DoorWalk x, String signs) {
        x.end(0);
        Check.text(x, signs);
        return x.day();
    }

    private static void dayEmpty() {
        Edge e = Edge.of(38, "THE TEXT tells A DAY (an empty one: nothing)");
        for (Edge.Made made : new Edge.Made[] {Twins::byHand, Twins::byExchange, Twins::byMap}) {
            DoorWalk x = made.make();
            DoorWalk y = made.make();
            y.end(0);
            e.is("nothing", day(x, ""), 0);
            e.row("none could not be, one is FULL", x, 0, 1);
            Twins.same("promise 38, an empty DAY", x, y, false);
        }
        DoorWalk x = Twins.three();
        e.is("nothing", day(x, ""), 0);
        e.row("three are FULL", x, 0, 3);
        x = new DoorWalk();
        e.is("a new object", x.day(), 0);
        e.row("a new object", x, 0, 1);
        e.is("one ACT", day(x, "l01011"), 1);
    }

    private static boolean whole(int n) {
        return n == 0 || n == 4 || n == 7 || n == 13 || n == 22;
    }

    private static void dayEnd() {
        Edge e = Edge.of(38, "-1 - p: the sign at p can't stand there (its end, if it ends too early); nothing is done then.");
        int done = 0;
        for (int n = 0; n <= FOUR.length(); n++) {
            String signs = FOUR.substring(0, n);
            if (whole(n)) {
                DoorWalk x = Twins.byExchange();
                e.is(signs, day(x, signs), done);
                e.is(signs + ": THE TEXT is read", x.count(8), 0);
                e.is(signs + ": as one", x.count(6), done == 0 ? 3 : 4);
                e.is(signs + ": none could not be", x.row(0), 0);
                e.is(signs + ": FULL CELLS then", x.row(1), x.count(5));
                done++;
            } else {
                e.refusesText(Twins::byExchange, signs, DoorWalk::day, -1 - n);
            }
        }
        e.is("all four", done, 5);
    }

    private static void daySigns() {
        Edge e = Edge.of(38, "-1 - p: the sign at p can't stand there");
        for (int p = 0; p < FOUR.length(); p++) {
            for (char v : new char[] {'/', ':', 'x', ' ', 'L', (char) 0, (char) 255}) {
                StringBuilder s = new StringBuilder(FOUR);
                s.setCharAt(p, v);
                e.refusesText(Twins::byExchange, s.toString(), DoorWalk::day, -1 - p);
            }
        }
        for (String behind : new String[] {";", "0", " ", "b", "G04"}) {
            e.refusesText(Twins::byExchange, FOUR + behind, DoorWalk::day, -23);
        }
        Edge between = Edge.of(38, "ACTS one behind another, without signs between");
        between.refusesText(Twins::byExchange, "a019;g04", DoorWalk::day, -5);
        between.refusesText(Twins::byExchange, " a019", DoorWalk::day, -1);
        between.is("without", day(Twins.byExchange(), "a019g04"), 2);
        // an ACT that can't be is no wrong sign: but a wrong sign behind it is told, and nothing is done
        between.refusesText(Twins::byExchange, "a019g03x", DoorWalk::day, -8);
        between.is("an ACT that can't be", day(Twins.byExchange(), "a019g03"), 1);
    }

    private static void dayStops() {
        Edge e = Edge.of(38, "they are done one by one, till one can't be (it answers below 0): how many were done; the ROW: 1 if one could not be, else 0, FULL CELLS then.");
        DoorWalk x = Twins.byExchange();
        e.is("the first can't be", day(x, "g03a019"), 0);
        e.row("the first can't be", x, 1, 1);
        e.is("nothing of it can be undone", x.count(6), 3);
        e.is("RULE stays", x.count(3), 1);
        e.is("the AMOUNT stays", x.amounts(0, 1, 1), -2);
        x = Twins.byExchange();
        e.is("the second can't be", day(x, "a019g03g05"), 1);
        e.is("one could not be", x.row(0), 1);
        e.is("the third is not done", x.count(0), 3);
        e.is("the first is", x.amounts(0, 1, 9), -2);
        x = Twins.byExchange();
        e.is("the last can't be", day(x, "g05g06g06"), 2);
        e.is("one could not be", x.row(0), 1);
        e.is("GRID", x.count(0), 6);
        x = Twins.byExchange();
        e.is("all can be", day(x, "g05g06g07"), 3);
        e.is("none could not be", x.row(0), 0);
        // once a LABEL is laid, RULE is 0: no grid(), no amounts()
        x = Twins.byExchange();
        e.is("lays(), grid()", day(x, "l01011g04"), 1);
        e.row("lays(), grid()", x, 1, 1);
        e.is("GRID stays", x.count(0), 3);
        x = Twins.byExchange();
        e.is("grid(), lays()", day(x, "g04l01011"), 2);
        e.is("GRID 4", x.count(0), 4);
    }

    /** An ACT that a call of the same kind would refuse, for each refusal; the ROW is A DAY's own. */
    private static void dayStopsAtEach() {
        Edge e = Edge.of(38, "till one can't be (it answers below 0)");
        String[] cant = {
            "l01010", "l00000", "l01013", "l01019", "l04000", "l00040", "l99990", "l02020", "g00", "g17", "g99", "g03", "s01010101",
            "s00000001", "s00000300", "s04000101", "s01010400", "s99999999", "a100", "a030", "a400", "a900", "a990", "a011"};
        for (String act : cant) {
            DoorWalk x = Twins.byExchange();
            e.is(act, day(x, act), 0);
            e.row(act, x, 1, 1);
            DoorWalk y = Twins.byExchange();
            y.end(0);
            Twins.same("promise 38, " + act + " can't be", x, y, false);
        }
        String[] can = {"l01011", "l01012", "l00011", "g01", "g16", "g02", "s00010002", "a010", "a009", "a029"};
        for (String act : can) {
            DoorWalk x = Twins.byExchange();
            e.is(act, day(x, act), 1);
            e.is(act, x.row(0), 0);
            e.is(act, x.count(6), 4);
        }
        String[] noRule = {"g04", "a019", "a319"};
        for (String act : noRule) {
            e.is("RULE 0, " + act, day(Twins.byHand(), act), 0);
        }
    }

    private static void dayLongest() {
        Edge e = Edge.of(38, "THE TEXT tells A DAY");
        DoorWalk x = Check.exchange("111111");
        e.is("80 signs, 20 ACTS", day(x, "a019a011".repeat(10)), 20);
        e.is("as one", x.count(6), 2);
        e.is("26 ACTS of three signs", day(x, "g05g04".repeat(13)), 26);
        e.is("79 signs", day(x, "g05g04".repeat(13) + "g"), -80);
        e.is("80 signs", day(x, "g05g04".repeat(13) + "g0"), -81);
    }

    private static void undoNone() {
        Edge e = Edge.of(39, "Refused: none.");
        e.stays("a new object", () -> Twins.ready(new DoorWalk()), DoorWalk::undo, -1);
        DoorWalk x = new DoorWalk();
        x.lays(1, 1, 1);
        e.is("one", x.undo(), 0);
        e.is("none", x.undo(), -1);
        e.is("none still", x.undo(), -1);
        e.labels("as at first", x, FIRST);
        x.lays(1, 1, 2);
        e.is("one again", x.undo(), 0);
    }

    private static void undoEight() {
        Edge e = Edge.of(39, "(of 8 that are kept, the latest ones; such as were done;");
        for (int many = 7; many <= 19; many++) {
            DoorWalk x = new DoorWalk();
            for (int k = 1; k <= many; k++) {
                x.lays(1, 1, k % 3);
                e.is("refused", x.lays(1, 1, k % 3), -2);
                e.is("can be undone", x.count(6), Math.min(k, 8));
            }
            for (int left = Math.min(many, 8) - 1; left >= 0; left--) {
                e.is("undo() of " + many, x.undo(), left);
            }
            e.is("all that are kept of " + many, x.label(1, 1), Math.max(0, many - 8) % 3);
            e.is("no more of " + many, x.undo(), -1);
        }
    }

    private static void undoOfEach() {
        Edge e = Edge.of(39, "The latest labels(), exchange(), map(), lays(), grid(), swaps(), amounts(), day()");
        Edge.Asked[] calls = {
            x -> told(x, "01210", DoorWalk::labels), x -> told(x, "222111;123456", DoorWalk::exchange), x -> told(x, "111111111", DoorWalk::map),
            x -> x.lays(1, 1, 1), x -> x.grid(5), x -> x.swaps(1, 0, 2, 0), x -> x.amounts(0, 1, 9), x -> told(x, "a019g05", DoorWalk::day)};
        for (int k = 0; k < calls.length; k++) {
            DoorWalk x = Twins.byExchange();
            DoorWalk y = Twins.byExchange();
            x.end(0);
            y.end(0);
            e.is("call " + k, calls[k].of(x) >= 0, true);
            e.is("call " + k + " can be undone", x.count(6), 4);
            e.is("call " + k + " is undone", x.undo(), 3);
            Twins.same("promise 39, call " + k + " is undone", x, y, false);
        }
        Edge.Asked[] others = {
            x -> x.sheet(5, 2, 1, 1, 0), x -> x.years(1, 40), x -> x.keep(0) ? 1 : 0, x -> x.sign(0), x -> x.end(1) ? 1 : 0, x -> x.were(1, 1, 1),
            x -> x.finer(5), DoorWalk::lone};
        for (int k = 0; k < others.length; k++) {
            DoorWalk x = Twins.byExchange();
            e.is("other call " + k, others[k].of(x) >= 0, true);
            e.is("other call " + k + ": nothing more can be undone", x.count(6), 3);
        }
    }

    private static long told(DoorWalk x, String signs, Edge.Asked call) {
        Check.text(x, signs);
        return call.of(x);
    }

    private static void undoOfDay() {
        Edge e = Edge.of(39, "day() of which one ACT was done, as one)");
        DoorWalk x = new DoorWalk();
        e.is("none was done", day(x, "l01010"), 0);
        e.is("nothing can be undone", x.count(6), 0);
        e.is("one was done, one can't be", day(x, "l01011l01011"), 1);
        e.is("as one", x.count(6), 1);
        e.is("three were done", day(x, "l01012l02012s01000101"), 3);
        e.is("as one", x.count(6), 2);
        e.is("undo()", x.undo(), 1);
        e.labels("ahead of the three", x, "21111" + "0100" + "000" + "00" + "0");
        e.is("undo()", x.undo(), 0);
        e.labels("ahead of the one", x, FIRST);
        e.is("no more", x.undo(), -1);
    }

    private static void undoForgotten() {
        Edge e = Edge.of(39, "(again() forgets them, if it is not refused.)");
        DoorWalk x = Twins.byExchange();
        e.is("refused", x.again(0), false);
        e.is("three", x.count(6), 3);
        e.is("refused", x.again(2), false);
        e.is("three", x.count(6), 3);
        e.is("done", x.again(1), true);
        e.is("none", x.count(6), 0);
        e.is("none", x.undo(), -1);
        x.lays(1, 1, 1);
        e.is("one", x.count(6), 1);
        e.is("undo()", x.undo(), 0);
        e.labels("as kept", x, "2211" + "201" + "00" + "0");
        Edge all = Edge.of(39, "(all that 1. tells of is as ahead of it)");
        x = Twins.byExchange();
        x.keep(0);
        x.point(0, 0);
        x.lays(1, 1, 1);
        x.undo();
        all.row("the ROW is not", x, 0, 0, 3);
        all.is("THE TEXT is not", x.count(8), 9);
        all.is("what is kept is not", x.again(0), true);
        all.is("RULE is", x.count(3), 1);
    }

    private static void years() {
        Edge e = Edge.of(40, "NONE: another n.");
        for (int n : new int[] {0, -1, 41, 42, MAX, MIN}) {
            e.stays("years(7, " + n + ")", Twins::byExchange, x -> x.years(7, n), -1);
            e.stays("years(0, " + n + ")", Twins::byHand, x -> x.years(0, n), -1);
        }
        e.is("years(7, 1)", Twins.byExchange().years(7, 1) > 0, true);
        e.is("years(7, 40)", Twins.byExchange().years(7, 40) > 0, true);
    }

    private static void yearsForgotten() {
        Edge e = Edge.of(40, "n times (1 .. 40; it is forgotten)");
        for (int seed : new int[] {0, 1, -1, MAX, MIN}) {
            for (int n : new int[] {1, 2, 39, 40}) {
                for (Edge.Made made : new Edge.Made[] {Twins::byHand, Twins::byExchange, Twins::byMap, Twins::three}) {
                    long[] due = oneByOne(made, seed, n);
                    e.tells("years(" + seed + ", " + n + ")", made, x -> x.years(seed, n), due[0], due[1], due[2], due[3], due[4]);
                }
            }
        }
    }

    /** What years() answers and tells, by lays() of each DRAW, told with longs. */
    private static long[] oneByOne(Edge.Made made, int seed, int n) {
        DoorWalk x = made.make();
        long r = seed & 0xffffffffL;
        for (int k = 0; k < n; k++) {
            r = (r * 1103515245L + 12345L) & 0xffffffffL;
            int j = (int) (r / 65536 % 10);
            int i = 0;
            while (j > 3 - i) {
                j -= 4 - i;
                i++;
            }
            r = (r * 1103515245L + 12345L) & 0xffffffffL;
            x.lays(i, j, (int) (r / 65536 % 3));
        }
        int full = x.full();
        return new long[] {full, x.row(0), x.outer(0), x.outer(1), x.outer(2)};
    }

    private static void yearsRefusals() {
        Edge e = Edge.of(40, "lays() (what is refused is not done)");
        // the only POINTS of GRID 1 are corners: whatever is drawn is refused
        for (int seed = -3; seed <= 3; seed++) {
            DoorWalk x = Check.labels("01210");
            e.is("GRID 1, years(" + seed + ", 40)", x.years(seed, 40), 1);
            e.row("GRID 1", x, 1, 1, 1, 1);
            e.labels("GRID 1", x, "210");
        }
        // R 12345 draws (0, 0) first, which can't have another LABEL
        DoorWalk x = new DoorWalk();
        e.is("years(0, 1)", x.years(0, 1), 1);
        e.row("years(0, 1)", x, 1, 1, 1, 1);
    }

    private static void draws() {
        Edge e = Edge.of(40, "R = R times 1103515245 + 12345 (as ints; R is seed at first), (R without sign, by 65536) % n.");
        // seed -1: R is -1103502900, without sign 3191464396, by 65536 48697, of 15 POINTS number 7, (1, 2); then R is
        // 288979989, by 65536 4409, of 3 2: at first LABELS are FIRST, and UP (0, 2) 1 2 1, DOWN (0, 2) 0 1 2,
        // DOWN (0, 1) 2 1 0, UP (1, 1) 0 0 2, DOWN (1, 1) 0 2 0, UP (1, 2) 2 0 0
        DoorWalk x = new DoorWalk();
        e.is("years(-1, 1)", x.years(-1, 1), 3);
        e.row("FULL are 0, 3 (TURN -1), 5 (TURN 1)", x, 1, 1, 1, 1);
        x.lays(1, 2, 2);
        e.is("as by hand", x.full(), 3);
        e.is("years(-1, 1) is refused what is so", x.years(-1, 1), 3);
        // R is 0 for this seed, then 12345
        int toNothing = seedOf(0);
        e.is("the seed", toNothing * 1103515245 + 12345, 0);
        x = new DoorWalk();
        e.is("POINT 0, LABEL 0: refused", x.years(toNothing, 1), 1);
        // R is the least int for this one: without sign 2147483648, by 65536 32768, of 15 POINTS number 8, (1, 3); then R is
        // -2147471303, without sign 2147495993, by 65536 32768, of 3 2: (1, 3) can't have that
        int toLeast = seedOf(MIN);
        e.is("the seed", toLeast * 1103515245 + 12345, MIN);
        e.is("POINT 8, LABEL 2: refused", x.years(toLeast, 1), 1);
        e.row("as at first", x, 1, 1, 1, 1);
        // of GRID 3 it is POINT 8 of 10, (2, 1), LABEL 2: it can't have that; of GRID 5 POINT 8 of 21, (1, 2)
        DoorWalk five = Check.labels("05" + "211111" + "00000" + "0000" + "000" + "00" + "0");
        e.is("32768 of 21 is 8", 32768 % 21, 8);
        int full = five.years(toLeast, 1);
        five.lays(1, 2, 2);
        e.is("(1, 2) of GRID 5", full, five.full());
        bigDraws(e);
    }

    /** The seed of which R becomes v. */
    private static int seedOf(int v) {
        // the inverse of an odd number, by doubling the bits that are right
        int inverse = 1103515245;
        for (int k = 0; k < 5; k++) {
            inverse *= 2 - 1103515245 * inverse;
        }
        return (v - 12345) * inverse;
    }

    private static void bigDraws(Edge e) {
        // of GRID 16 all 153 POINTS can be drawn: seeds of which the last and the first one is
        DoorWalk big = Check.exchange("111111");
        big.grid(16);
        int full = big.count(5);
        for (int seed : new int[] {MAX, MIN, 12345, -12345}) {
            e.is("GRID 16, years(" + seed + ", 40)", big.years(seed, 40) >= 1, true);
            e.is("all is as it was", big.count(5), full);
        }
    }
}
