/** Boundary cases of promises 34 to 37: lays, grid, swaps, amounts. */
final class EdgesOfChanges {
    private static final int MAX = Integer.MAX_VALUE;
    private static final int MIN = Integer.MIN_VALUE;

    private EdgesOfChanges() {
    }

    static void run() {
        lays();
        laysCant();
        laysDone();
        grid();
        gridDone();
        swaps();
        swapsCant();
        swapsDone();
        amounts();
        amountsRule();
        amountsDone();
    }

    private static void lays() {
        Edge none = Edge.of(34, "NONE: no such POINT, LABEL.");
        for (int[] p : EdgesOfPoints.OUTSIDE) {
            for (int v = 0; v < 3; v++) {
                int label = v;
                none.stays("lays(" + p[0] + ", " + p[1] + ", " + v + ")", Twins::byExchange, x -> x.lays(p[0], p[1], label), -1);
            }
        }
        for (int v : new int[] {-1, 3, 4, MAX, MIN}) {
            none.stays("lays(1, 1, " + v + ")", Twins::byMap, x -> x.lays(1, 1, v), -1);
            none.stays("lays(3, 0, " + v + ")", Twins::byMap, x -> x.lays(3, 0, v), -1);
            none.stays("lays(4, 0, " + v + ")", Twins::byMap, x -> x.lays(4, 0, v), -1);
        }
        none.is("lays(1, 1, 2)", Twins.byMap().lays(1, 1, 2), 0);
        Edge so = Edge.of(34, "-2: it is so;");
        so.stays("(0, 0) 2", Twins::byExchange, x -> x.lays(0, 0, 2), -2);
        so.stays("(1, 1) 0", Twins::byExchange, x -> x.lays(1, 1, 0), -2);
        so.stays("(3, 0) 0", Twins::byHand, x -> x.lays(3, 0, 0), -2);
        so.is("(1, 1) 1", Twins.byExchange().lays(1, 1, 1), 0);
        DoorWalk x = Twins.byExchange();
        x.lays(1, 1, 2);
        so.is("then it is so", x.lays(1, 1, 2), -2);
        so.is("and back", x.lays(1, 1, 0), 2);
    }

    private static void laysCant() {
        Edge e = Edge.of(34, "-4: it can't have that;");
        String[] can = {"2", "12", "12", "1", "02", "012", "01", "02", "01", "0"};
        String now = "2211201000";
        int number = 0;
        for (int i = 0; i <= 3; i++) {
            for (int j = 0; j <= 3 - i; j++) {
                for (int v = 0; v < 3; v++) {
                    int a = i;
                    int b = j;
                    int c = v;
                    String what = "lays(" + i + ", " + j + ", " + v + ")";
                    int was = now.charAt(number) - '0';
                    if (!can[number].contains("" + v)) {
                        e.stays(what, Twins::byExchange, x -> x.lays(a, b, c), -4);
                    } else {
                        e.is(what, Twins.byExchange().lays(i, j, v), was == v ? -2 : was);
                    }
                }
                number++;
            }
        }
    }

    private static void laysDone() {
        Edge e = Edge.of(34, "The LABEL of a POINT becomes v (RULE 0 then): what it was.");
        for (Edge.Made made : new Edge.Made[] {Twins::byExchange, Twins::byMap}) {
            DoorWalk x = made.make();
            int undone = x.count(6);
            e.is("what it was", x.lays(1, 1, 1), 0);
            e.is("the LABEL", x.label(1, 1), 1);
            e.is("RULE", x.count(3), 0);
            e.is("TRADERS", x.count(4), 0);
            e.is("it can be undone", x.count(6), undone + 1);
            e.row("the ROW stays", x, 1, 2, 0);
            e.is("THE TEXT stays", x.count(8), 9);
        }
        DoorWalk big = Check.exchange("111111");
        big.grid(16);
        e.is("(1, 15) of GRID 16", big.lays(1, 15, 0), 1);
        e.is("it has it", big.label(1, 15), 0);
        e.is("(15, 1) of GRID 16", big.lays(15, 1, 1), 0);
        e.is("(16, 1) is none", big.lays(16, 1, 1), -1);
    }

    private static void grid() {
        Edge none = Edge.of(35, "NONE: n is not 1 .. 16.");
        for (int n : new int[] {0, -1, 17, 18, MAX, MIN}) {
            none.stays("by EXCHANGE, grid(" + n + ")", Twins::byExchange, x -> x.grid(n), -1);
            none.stays("by MAP, grid(" + n + ")", Twins::byMap, x -> x.grid(n), -1);
            none.stays("by hand, grid(" + n + ")", Twins::byHand, x -> x.grid(n), -1);
        }
        none.is("grid(1)", Twins.byExchange().grid(1), 1);
        none.is("grid(16)", Twins.byExchange().grid(16), 1);
        Edge so = Edge.of(35, "-2: it is so;");
        so.stays("by EXCHANGE, grid(3)", Twins::byExchange, x -> x.grid(3), -2);
        so.stays("by MAP, grid(3)", Twins::byMap, x -> x.grid(3), -2);
        so.stays("by hand, grid(3)", Twins::byHand, x -> x.grid(3), -2);
        so.is("grid(2)", Twins.byExchange().grid(2), 1);
        so.is("grid(4)", Twins.byExchange().grid(4), 1);
        DoorWalk x = Twins.byExchange();
        x.grid(16);
        so.is("grid(16)", x.grid(16), -2);
        x.grid(1);
        so.is("grid(1)", x.grid(1), -2);
        Edge rule = Edge.of(35, "-3: RULE is 0;");
        for (int n : new int[] {1, 2, 4, 16}) {
            rule.stays("by hand, grid(" + n + ")", Twins::byHand, t -> t.grid(n), -3);
            rule.stays("as told, grid(" + n + ")", Twins::three, t -> t.grid(n), -3);
            rule.is("RULE 2, grid(" + n + ")", Twins.byMap().grid(n) > 0, true);
        }
    }

    private static void gridDone() {
        Edge e = Edge.of(35, "GRID n, LABELS by the RULE: how many CELLS are FULL.");
        DoorWalk x = Twins.byExchange();
        e.is("grid(16)", x.grid(16), 1);
        e.is("POINTS", x.count(1), 153);
        e.is("CELLS", x.count(2), 256);
        e.is("RULE stays", x.count(3), 1);
        e.is("it can be undone", x.count(6), 4);
        e.is("label(5, 5)", x.label(5, 5), 2);
        e.is("label(6, 5)", x.label(6, 5), 0);
        e.is("label(5, 6)", x.label(5, 6), 1);
        e.is("grid(1)", x.grid(1), 1);
        e.labels("GRID 1", x, "210");
        e.is("undo()", x.undo(), 4);
        e.is("GRID 16 again", x.label(5, 6), 1);
        e.row("the ROW stays", x, 1, 2, 0);
    }

    private static void swaps() {
        Edge none = Edge.of(36, "NONE: no such POINTS, both are one.");
        for (int[] p : EdgesOfPoints.OUTSIDE) {
            none.stays("swaps(" + p[0] + ", " + p[1] + ", 1, 1)", Twins::byExchange, x -> x.swaps(p[0], p[1], 1, 1), -1);
            none.stays("swaps(1, 1, " + p[0] + ", " + p[1] + ")", Twins::byExchange, x -> x.swaps(1, 1, p[0], p[1]), -1);
            none.stays("swaps() of it and itself", Twins::byHand, x -> x.swaps(p[0], p[1], p[0], p[1]), -1);
        }
        for (int i = 0; i <= 3; i++) {
            for (int j = 0; j <= 3 - i; j++) {
                int a = i;
                int b = j;
                none.stays("both are (" + i + ", " + j + ")", Twins::byMap, x -> x.swaps(a, b, a, b), -1);
            }
        }
        Edge alike = Edge.of(36, "-2: they are alike;");
        alike.stays("(0, 0), (0, 1)", Twins::byExchange, x -> x.swaps(0, 0, 0, 1), -2);
        alike.stays("(1, 1), (3, 0)", Twins::byExchange, x -> x.swaps(1, 1, 3, 0), -2);
        alike.stays("(0, 3), (0, 2)", Twins::byMap, x -> x.swaps(0, 3, 0, 2), -2);
        alike.is("(0, 1), (0, 2) are not", Twins.byExchange().swaps(0, 1, 0, 2) > 0, true);
    }

    private static void swapsCant() {
        Edge e = Edge.of(36, "-4: one can't have that;");
        // byHand: 2211 211 00 0; the first can't, the second can't, both can't
        e.stays("(0, 1) can't have 0", Twins::byHand, x -> x.swaps(0, 1, 2, 0), -4);
        e.stays("the same from the other", Twins::byHand, x -> x.swaps(2, 0, 0, 1), -4);
        e.stays("(3, 0) can't have 1", Twins::byHand, x -> x.swaps(1, 1, 3, 0), -4);
        e.stays("the same from the other", Twins::byHand, x -> x.swaps(3, 0, 1, 1), -4);
        e.stays("(0, 0), (3, 0): both can't", Twins::byHand, x -> x.swaps(0, 0, 3, 0), -4);
        e.stays("(1, 0) can't have 1, (0, 2) could 2", Twins::byHand, x -> x.swaps(1, 0, 0, 2), -4);
        e.is("(1, 1), (1, 0): (1, 0) can't have 1", Twins.byHand().swaps(1, 1, 1, 0), -4);
        e.is("(1, 0), (2, 0) can", Twins.byHand().swaps(1, 0, 2, 0) > 0, true);
        e.is("(1, 1), (0, 1) can", Twins.byHand().swaps(1, 1, 0, 1) > 0, true);
    }

    private static void swapsDone() {
        Edge e = Edge.of(36, "LABELS of two POINTS change places (RULE 0 then): how many CELLS are FULL.");
        DoorWalk x = Twins.byExchange();
        // 2211 201 00 0: (1, 0) 2 and (2, 0) 0
        int full = x.swaps(1, 0, 2, 0);
        e.is("FULL CELLS", full, x.count(5));
        e.labels("changed", x, "2211" + "001" + "20" + "0");
        e.is("RULE", x.count(3), 0);
        e.is("it can be undone", x.count(6), 4);
        e.row("the ROW stays", x, 1, 2, 0);
        e.is("back", x.swaps(2, 0, 1, 0), 1);
        e.labels("back", x, "2211" + "201" + "00" + "0");
        e.is("undo()", x.undo(), 4);
        e.labels("undone", x, "2211" + "001" + "20" + "0");
    }

    private static DoorWalk two() {
        return Twins.ready(Check.exchange("111111;123456"));
    }

    private static void amounts() {
        Edge none = Edge.of(37, "NONE: no such TRADER, GOOD, v.");
        for (int trader : new int[] {-1, 2, 3, 4, 5, MAX, MIN}) {
            none.stays("TRADER " + trader + " of 2", EdgesOfChanges::two, x -> x.amounts(trader, 0, 5), -1);
        }
        for (int good : new int[] {-1, 3, 4, MAX, MIN}) {
            none.stays("GOOD " + good, EdgesOfChanges::two, x -> x.amounts(0, good, 5), -1);
        }
        for (int v : new int[] {-1, 10, 11, MAX, MIN}) {
            none.stays("v " + v, EdgesOfChanges::two, x -> x.amounts(0, 0, v), -1);
        }
        none.is("TRADER 0", two().amounts(0, 0, 5), 1);
        none.is("TRADER 1", two().amounts(1, 0, 5), 1);
        none.is("GOOD 2", two().amounts(1, 2, 5), 3);
        none.is("v 0", two().amounts(1, 1, 0), 2);
        none.is("v 9", two().amounts(1, 1, 9), 2);
        DoorWalk four = Check.exchange("111111;111111;111111;111111");
        none.is("TRADER 3 of 4", four.amounts(3, 2, 0), 1);
        none.is("TRADER 4 of 4", four.amounts(4, 2, 0), -1);
        Edge so = Edge.of(37, "-2: it is so;");
        so.stays("(0, 0) 1", EdgesOfChanges::two, x -> x.amounts(0, 0, 1), -2);
        so.stays("(1, 1) 2", EdgesOfChanges::two, x -> x.amounts(1, 1, 2), -2);
        so.stays("(1, 2) 3", EdgesOfChanges::two, x -> x.amounts(1, 2, 3), -2);
        so.is("(1, 2) 4", two().amounts(1, 2, 4), 3);
        so.is("(1, 2) 2", two().amounts(1, 2, 2), 3);
    }

    private static void amountsRule() {
        Edge e = Edge.of(37, "-3: RULE is not 1 (ahead of whether there is such a TRADER of 0 .. 3);");
        for (Edge.Made made : new Edge.Made[] {Twins::byHand, Twins::byMap, Twins::three}) {
            for (int trader = 0; trader <= 3; trader++) {
                int t = trader;
                e.stays("TRADER " + trader, made, x -> x.amounts(t, 0, 1), -3);
                e.stays("TRADER " + trader, made, x -> x.amounts(t, 2, 9), -3);
            }
            e.stays("TRADER -1", made, x -> x.amounts(-1, 0, 1), -1);
            e.stays("TRADER 4", made, x -> x.amounts(4, 0, 1), -1);
            e.stays("GOOD 3", made, x -> x.amounts(0, 3, 1), -1);
            e.stays("GOOD -1", made, x -> x.amounts(0, -1, 1), -1);
            e.stays("v 10", made, x -> x.amounts(0, 0, 10), -1);
            e.stays("v -1", made, x -> x.amounts(0, 0, -1), -1);
        }
        e.stays("RULE 1, TRADER 1 of 1", Twins::byExchange, x -> x.amounts(1, 0, 2), -1);
        e.is("RULE 1, TRADER 0 of 1", Twins.byExchange().amounts(0, 0, 2), 1);
    }

    private static void amountsDone() {
        Edge e = Edge.of(37, "LABELS become those of the RULE again, with AMOUNT of a GOOD of a TRADER v (0 .. 9): what it was.");
        DoorWalk x = Twins.byExchange();
        // of PRICE times AMOUNT the greatest: with 0 of GOOD 0 it is never that, but where GOOD 0 alone has a PRICE
        e.is("0", x.amounts(0, 0, 0), 1);
        e.labels("0", x, "2211" + "211" + "21" + "0");
        e.is("9", x.amounts(0, 0, 9), 0);
        e.labels("9", x, "2211" + "000" + "00" + "0");
        e.is("RULE stays", x.count(3), 1);
        e.is("both can be undone", x.count(6), 5);
        e.row("the ROW stays", x, 1, 2, 0);
        e.is("undo()", x.undo(), 4);
        e.is("the AMOUNT as it was", x.amounts(0, 0, 0), -2);
    }
}
