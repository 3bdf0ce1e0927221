/** Boundary cases of promises 24 to 26: finer, within, inner. */
final class EdgesOfFiner {
    private static final int MAX = Integer.MAX_VALUE;
    private static final int MIN = Integer.MIN_VALUE;

    private EdgesOfFiner() {
    }

    static void run() {
        finer();
        finerRule();
        within();
        withinGrid();
        withinRule();
        inner();
        innerRim();
        innerNone();
    }

    private static DoorWalk exchangeOf(int n) {
        DoorWalk x = Check.exchange("111111");
        x.grid(n);
        return Twins.ready(x);
    }

    private static void finer() {
        Edge e = Edge.of(24, "NONE: another n.");
        for (int n : new int[] {0, -1, 17, 18, MAX, MIN}) {
            e.stays("by EXCHANGE, finer(" + n + ")", Twins::byExchange, x -> x.finer(n), -1);
            e.stays("by MAP, finer(" + n + ")", Twins::byMap, x -> x.finer(n), -1);
            e.stays("by hand, finer(" + n + ")", Twins::byHand, x -> x.finer(n), -1);
        }
        // the LABEL is the first GOOD of the greatest PRICE: at GRID 16 UP (5, 5) is 2 0 1
        e.tells("finer(1)", Twins::byExchange, x -> x.finer(1), 1, 1, 0);
        e.tells("finer(16)", Twins::byExchange, x -> x.finer(16), 1, 1, 2 * (16 * 5 + 5));
        e.tells("by MAP, finer(1)", Twins::byMap, x -> x.finer(1), 1, 1, 0);
        e.is("by MAP, finer(16)", Twins.byMap().finer(16) > 0, true);
        e.tells("N itself", Twins::byExchange, x -> x.finer(3), 1, 1, 2);
        e.tells("below N, too", Twins::byExchange, x -> x.finer(2), 1, 1, 0);
    }

    private static void finerRule() {
        Edge e = Edge.of(24, "-3: RULE is 0;");
        for (int n : new int[] {1, 3, 16}) {
            e.stays("by hand, finer(" + n + ")", Twins::byHand, x -> x.finer(n), -3);
            e.stays("as told, finer(" + n + ")", Twins::three, x -> x.finer(n), -3);
            e.is("RULE 1, finer(" + n + ")", Twins.byExchange().finer(n) > 0, true);
            e.is("RULE 2, finer(" + n + ")", Twins.byMap().finer(n) > 0, true);
        }
        DoorWalk x = Twins.byHand();
        x.undo();
        e.is("RULE 1 again", x.finer(3), 1);
    }

    private static void within() {
        Edge e = Edge.of(25, "NONE: no such CELL.");
        for (int c : EdgesOfPoints.NO_CELLS) {
            e.stays("by EXCHANGE, within(" + c + ")", Twins::byExchange, x -> x.within(c), -1);
            e.stays("by hand, within(" + c + ")", Twins::byHand, x -> x.within(c), -1);
        }
        for (int c : new int[] {-1, 17, 18 * 8 + 1, 18 * 8 + 2, 162}) {
            e.stays("GRID 9, within(" + c + ")", () -> exchangeOf(9), x -> x.within(c), -1);
        }
        // of GRID 6
        e.tells("within(0)", Twins::byExchange, x -> x.within(0), 0, 0, 1, 2, 12);
        e.tells("within(4)", Twins::byExchange, x -> x.within(4), 0, 8, 9, 10, 20);
        e.tells("within(7): DOWN (1, 0)", Twins::byExchange, x -> x.within(7), 0, 27, 37, 38, 39);
        e.tells("within(12): UP (2, 0)", Twins::byExchange, x -> x.within(12), 0, 48, 49, 50, 60);
        DoorWalk one = exchangeOf(1);
        e.is("GRID 1, within(0)", one.within(0), 1);
        e.row("all of GRID 2", one, 0, 1, 2, 4);
        e.is("GRID 1, within(1)", one.within(1), -1);
    }

    private static void withinGrid() {
        Edge e = Edge.of(25, "-4: that GRID is above 16;");
        e.tells("GRID 8, UP (0, 0)", () -> exchangeOf(8), x -> x.within(0), 0, 0, 1, 2, 32);
        e.tells("GRID 8, UP (7, 0)", () -> exchangeOf(8), x -> x.within(112), 0, 448, 449, 450, 480);
        e.tells("GRID 8, UP (0, 7)", () -> exchangeOf(8), x -> x.within(14), 0, 28, 29, 30, 60);
        e.tells("GRID 8, DOWN (6, 0)", () -> exchangeOf(8), x -> x.within(97), 0, 387, 417, 418, 419);
        for (int n = 9; n <= 16; n++) {
            int size = n;
            e.stays("GRID " + n, () -> exchangeOf(size), x -> x.within(0), -4);
        }
        // UP (8, 0) is a CELL of GRID 9
        e.stays("GRID 9, its last CELL", () -> exchangeOf(9), x -> x.within(144), -4);
    }

    private static void withinRule() {
        Edge e = Edge.of(25, "-3: RULE is 0;");
        for (int c : new int[] {0, 1, 4, 7, 12}) {
            e.stays("within(" + c + ")", Twins::byHand, x -> x.within(c), -3);
            e.is("RULE 2, within(" + c + ")", Twins.byMap().within(c) >= 0, true);
        }
        DoorWalk nine = exchangeOf(9);
        e.is("GRID 9", nine.within(0), -4);
        nine.lays(1, 1, 1);
        e.is("GRID 9, RULE 0", nine.within(0), -3);
    }

    private static void inner() {
        Edge e = Edge.of(26, "The least n from N to 16 for which the first FULL CELL lies apart from the whole rim");
        // GRID 3: UP (0, 1); GRID 4: UP (1, 1)
        e.tells("N 3", Twins::byExchange, DoorWalk::inner, 4, 10);
        e.tells("N 1", () -> exchangeOf(1), DoorWalk::inner, 4, 10);
        e.tells("N 4 itself", () -> exchangeOf(4), DoorWalk::inner, 4, 10);
        e.tells("N 16 itself", () -> exchangeOf(16), DoorWalk::inner, 16, 2 * (16 * 5 + 5));
        DoorWalk five = exchangeOf(5);
        e.is("N 5: not below N", five.inner() >= 5, true);
    }

    /**
     * EXCESS is income 1 1 2 times WISH 1 8 1, less 10 times PRICE times AMOUNT: at GRID 16 (1, 13) has 8 14 -22, (2, 13)
     * -3 6 -3, (1, 14) 7 -4 -3, so UP (1, 13) is 2 0 1.
     */
    private static DoorWalk late() {
        return Twins.ready(Check.exchange("112181"));
    }

    private static void innerRim() {
        Edge e = Edge.of(26, "(none of its POINTS on it)");
        e.tells("at GRID 16 at last", EdgesOfFiner::late, DoorWalk::inner, 16, 2 * (16 + 13));
        DoorWalk x = late();
        for (int k = 4; k < 16; k++) {
            x.finer(k);
            int f = (int) x.row(1);
            boolean apart = f / 2 / k > 0 && f / 2 % k > 0 && f / 2 / k + f / 2 % k + 1 + f % 2 < k;
            e.is("GRID " + k + ": some POINT is on it", apart, false);
        }
        x.grid(16);
        e.is("GRID 16 itself", x.inner(), 16);
    }

    private static void innerNone() {
        Edge e = Edge.of(26, "-2: none;");
        // each PRICE stays as it is: UP (0, 0) is FULL in each GRID
        for (int n : new int[] {1, 4, 15, 16}) {
            e.stays("GRID " + n, () -> {
                DoorWalk x = Check.map("100010001", 1);
                x.grid(n);
                return Twins.ready(x);
            }, DoorWalk::inner, -2);
        }
        e.is("another MAP", Check.map("111111111", 3).inner(), 4);
        Edge rule = Edge.of(26, "-3: RULE is 0.");
        rule.stays("by hand", Twins::byHand, DoorWalk::inner, -3);
        rule.stays("as told", Twins::three, DoorWalk::inner, -3);
        rule.is("RULE 1", Twins.byExchange().inner(), 4);
    }
}
