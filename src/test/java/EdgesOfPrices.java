/** Boundary cases of promises 27 to 30: excess, best, clears, sells. */
final class EdgesOfPrices {
    private static final int MAX = Integer.MAX_VALUE;
    private static final int MIN = Integer.MIN_VALUE;

    private EdgesOfPrices() {
    }

    static void run() {
        excess();
        excessMost();
        best();
        bestOfAll();
        clears();
        clearsIsThere();
        sells();
        sellsAtMost();
    }

    private static void excess() {
        Edge none = Edge.of(27, "NONE: no such POINT.");
        for (int[] p : EdgesOfPoints.OUTSIDE) {
            none.stays("excess(" + p[0] + ", " + p[1] + ")", Twins::byExchange, x -> x.excess(p[0], p[1]), -1);
            none.stays("RULE 0, excess(" + p[0] + ", " + p[1] + ")", Twins::byHand, x -> x.excess(p[0], p[1]), -1);
        }
        // 3 less 3 times the PRICE
        none.tells("excess(0, 0)", Twins::byExchange, x -> x.excess(0, 0), 0, 3, 3, -6, 6);
        none.tells("excess(0, 3)", Twins::byExchange, x -> x.excess(0, 3), 0, 3, -6, 3, 6);
        none.tells("excess(3, 0)", Twins::byExchange, x -> x.excess(3, 0), 0, -6, 3, 3, 6);
        none.tells("excess(1, 2)", Twins::byExchange, x -> x.excess(1, 2), 0, 0, -3, 3, 3);
        none.tells("excess(2, 1)", Twins::byExchange, x -> x.excess(2, 1), 0, -3, 0, 3, 3);
        Edge rule = Edge.of(27, "-3: RULE is not 1;");
        rule.stays("RULE 0", Twins::byHand, x -> x.excess(0, 0), -3);
        rule.stays("RULE 2", Twins::byMap, x -> x.excess(0, 0), -3);
        rule.tells("RULE 1", Twins::byExchange, x -> x.excess(1, 1), 0, 0, 0, 0, 0);
    }

    /** D 27 times 27 times 27 times 27, AMOUNTS 9 of four TRADERS, PRICE 16. */
    private static void excessMost() {
        Edge e = Edge.of(27, "EXCESSES at a POINT: 0; the ROW: they, OFF.");
        DoorWalk x = Check.exchange("999999;999999;999999;999999");
        x.grid(16);
        long d = 27L * 27 * 27 * 27;
        e.is("excess(16, 0)", x.excess(16, 0), 0);
        // income 144 each; 4 times 144 times 9 times D by 27, less D times 16 times 36
        long third = 4 * 144 * 9 * (d / 27);
        e.row("excess(16, 0)", x, third - d * 16 * 36, third, third, d * 16 * 36 - third);
        x = Check.exchange("000999");
        e.is("no AMOUNTS", x.excess(1, 1), 0);
        e.row("no AMOUNTS", x, 0, 0, 0, 0);
    }

    private static void best() {
        Edge e = Edge.of(28, "The POINT of the least OFF (of equal ones the first): its number;");
        e.tells("(1, 1) alone", Twins::byExchange, DoorWalk::best, 5, 1, 1, 0);
        DoorWalk x = Check.exchange("111111");
        e.is("2 at (1, 1), (1, 2), (2, 1)", x.best(), 6);
        e.row("2 at (1, 1), (1, 2), (2, 1)", x, 1, 1, 2);
        x = Check.exchange("000111");
        e.is("0 at each POINT", x.best(), 0);
        e.row("0 at each POINT", x, 0, 0, 0);
        x = Check.exchange("011111");
        e.is("0 at the last POINT alone", x.best(), 14);
        e.row("0 at the last POINT alone", x, 4, 0, 0);
        Edge rule = Edge.of(28, "-3: RULE is not 1.");
        rule.stays("RULE 0", Twins::byHand, DoorWalk::best, -3);
        rule.stays("as told", Twins::three, DoorWalk::best, -3);
        rule.stays("RULE 2", Twins::byMap, DoorWalk::best, -3);
    }

    /** The first POINT of the least OFF and how many are less OFF than clears() tells, by excess() of each POINT of the GRID. */
    private static void bestOfAll() {
        Edge e = Edge.of(28, "The POINT of the least OFF (of equal ones the first)");
        Edge less = Edge.of(29, "how many POINTS of the GRID are less OFF");
        // at (0, 1); then such as would find less OFF one step outside a side, were it a POINT
        String[] signs = {
            "101111", "125189", "126179", "126195", "215819", "216719", "216915", "251891", "261791", "261951", "114198", "115157", "115199",
            "115619", "115717", "116613"};
        int[] sizes = {1, 2, 2, 4, 2, 2, 4, 2, 2, 4, 4, 3, 4, 3, 4, 8};
        for (int k = 0; k < signs.length; k++) {
            DoorWalk x = Check.exchange(signs[k]);
            int n = sizes[k];
            x.grid(n);
            x.clears();
            long told = x.row(2);
            long toldLess = x.row(3);
            long many = 0;
            long[] found = {0, 0, Long.MAX_VALUE};
            for (int i = 0; i <= n; i++) {
                for (int j = 0; j <= n - i; j++) {
                    x.excess(i, j);
                    long off = x.row(3);
                    many += off < told ? 1 : 0;
                    found = off < found[2] ? new long[] {i, j, off} : found;
                }
            }
            less.is(signs[k] + " of GRID " + n, toldLess, many);
            int number = x.point((int) found[0], (int) found[1]);
            e.is(signs[k] + " of GRID " + n, x.best(), number);
            e.row(signs[k] + " of GRID " + n, x, found);
        }
    }

    private static void clears() {
        Edge e = Edge.of(29, "(of equal ones the first CELL): it;");
        e.tells("one CELL", Twins::byExchange, DoorWalk::clears, 2, 1, 1, 0, 0);
        DoorWalk x = Check.exchange("000111");
        e.is("all POINTS are alike", x.clears(), 0);
        e.row("all POINTS are alike", x, 0, 0, 0, 0);
        Edge rule = Edge.of(29, "-3: RULE is not 1.");
        rule.stays("RULE 0", Twins::byHand, DoorWalk::clears, -3);
        rule.stays("as told", Twins::three, DoorWalk::clears, -3);
        rule.stays("RULE 2", Twins::byMap, DoorWalk::clears, -3);
        Edge less = Edge.of(29, "how many POINTS of the GRID are less OFF.");
        // (1, 2), of a FULL CELL, is 6 OFF; (1, 1), of none, is 4 OFF
        x = Check.exchange("213113");
        less.is("one is", x.clears(), 4);
        less.row("one is", x, 1, 2, 6, 1);
        x.excess(1, 1);
        less.is("(1, 1)", x.row(3), 4);
        less.tells("none is", Twins::byExchange, DoorWalk::clears, 2, 1, 1, 0, 0);
    }

    /** "-2: no CELL is FULL" can't come: some CELL is, whatever the LABELS are. */
    private static void clearsIsThere() {
        Edge e = Edge.of(29, "-2: no CELL is FULL;");
        for (String signs : new String[] {"000111", "900191", "090119", "009911", "900911", "999119;111991", "100111;010111;001111;000111"}) {
            DoorWalk x = Check.exchange(signs);
            for (int n = 1; n <= 16; n++) {
                x.grid(n);
                int c = x.clears();
                e.is(signs + ", GRID " + n, c >= 0, true);
                e.is(signs + ", GRID " + n + ": it is FULL", x.cell(c), 1);
            }
        }
    }

    private static void sells() {
        Edge none = Edge.of(30, "NONE: no such POINT, GOOD.");
        for (int[] p : EdgesOfPoints.OUTSIDE) {
            none.stays("sells(" + p[0] + ", " + p[1] + ", 0)", Twins::byExchange, x -> x.sells(p[0], p[1], 0), -1);
        }
        for (int g : new int[] {-1, 3, 4, MAX, MIN}) {
            none.stays("sells(1, 1, " + g + ")", Twins::byExchange, x -> x.sells(1, 1, g), -1);
            none.stays("RULE 0, sells(1, 1, " + g + ")", Twins::byHand, x -> x.sells(1, 1, g), -1);
        }
        none.tells("sells(3, 0, 0)", Twins::byExchange, x -> x.sells(3, 0, 0), 1, 1);
        none.tells("sells(3, 0, 2)", Twins::byExchange, x -> x.sells(3, 0, 2), 0, 0);
        none.tells("sells(0, 0, 2)", Twins::byExchange, x -> x.sells(0, 0, 2), 1, 1);
        Edge rule = Edge.of(30, "-3: RULE is not 1;");
        rule.stays("RULE 0", Twins::byHand, x -> x.sells(1, 1, 1), -3);
        rule.stays("RULE 2", Twins::byMap, x -> x.sells(1, 1, 1), -3);
        rule.tells("RULE 1", Twins::byExchange, x -> x.sells(1, 1, 1), 1, 1);
    }

    private static void sellsAtMost() {
        Edge e = Edge.of(30, "(income times WISH g by SUM of WISHES is PRICE g times AMOUNT g at most, not rounded)");
        e.tells("3 by 3 is 1", Twins::byExchange, x -> x.sells(1, 1, 0), 1, 1);
        DoorWalk x = Check.exchange("111111");
        e.is("4 by 3 is above 1", x.sells(1, 1, 0), 0);
        e.row("4 by 3 is above 1", x, 0);
        e.is("4 by 3 is below 2", x.sells(1, 1, 2), 1);
        x.grid(2);
        e.is("2 by 3 is below 1", x.sells(1, 1, 0), 1);
        e.is("2 by 3 is above 0", x.sells(1, 1, 2), 0);
        x.grid(5);
        e.is("5 by 3 is above 1", x.sells(1, 1, 0), 0);
        e.is("5 by 3 is below 2", x.sells(2, 1, 0), 1);
        // no income: 0 is 0 at most, of each GOOD
        x = Check.exchange("000111;100111;110111;111111");
        e.is("the first has no income", x.sells(0, 0, 0), 7);
        e.row("three have none at PRICES 0 0 4", x, 3);
        e.is("all four: 4 by 3 is below 4", x.sells(0, 0, 2), 15);
        e.row("all four", x, 4);
        e.is("(4, 0): the first alone", x.sells(4, 0, 1), 1);
        e.row("(4, 0): the first alone", x, 1);
    }
}
