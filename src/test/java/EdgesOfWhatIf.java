/** Boundary cases of promises 31 to 33: were, hangs, lone. */
final class EdgesOfWhatIf {
    private static final int MAX = Integer.MAX_VALUE;
    private static final int MIN = Integer.MIN_VALUE;

    private EdgesOfWhatIf() {
    }

    static void run() {
        were();
        wereCant();
        hangs();
        hangsAtLeast();
        lone();
        loneNone();
    }

    private static void were() {
        Edge none = Edge.of(31, "NONE: no such POINT, LABEL.");
        for (int[] p : EdgesOfPoints.OUTSIDE) {
            none.stays("were(" + p[0] + ", " + p[1] + ", 0)", Twins::three, x -> x.were(p[0], p[1], 0), -1);
        }
        for (int v : new int[] {-1, 3, 4, MAX, MIN}) {
            none.stays("were(1, 1, " + v + ")", Twins::byExchange, x -> x.were(1, 1, v), -1);
            none.stays("were(0, 0, " + v + ")", Twins::byExchange, x -> x.were(0, 0, v), -1);
            none.stays("were(4, 0, " + v + ")", Twins::byExchange, x -> x.were(4, 0, v), -1);
        }
        none.tells("as it is", Twins::three, x -> x.were(1, 1, 2), 3, 1, 0);
        none.tells("were(1, 1, 0)", Twins::three, x -> x.were(1, 1, 0), 1, 1, 0);
        // DOWN (1, 0) is 1 2 0, UP (1, 1) 2 1 0
        none.tells("were(2, 1, 1)", Twins::three, x -> x.were(2, 1, 1), 5, 1, 2);
    }

    private static void wereCant() {
        Edge e = Edge.of(31, "-4: it can't have that;");
        String[] can = {"2", "12", "12", "1", "02", "012", "01", "02", "01", "0"};
        int number = 0;
        for (int i = 0; i <= 3; i++) {
            for (int j = 0; j <= 3 - i; j++) {
                for (int v = 0; v < 3; v++) {
                    int a = i;
                    int b = j;
                    int c = v;
                    if (can[number].contains("" + v)) {
                        e.is("were(" + i + ", " + j + ", " + v + ")", Twins.byMap().were(i, j, v) > 0, true);
                    } else {
                        e.stays("were(" + i + ", " + j + ", " + v + ")", Twins::byMap, x -> x.were(a, b, c), -4);
                    }
                }
                number++;
            }
        }
    }

    private static void hangs() {
        Edge none = Edge.of(32, "NONE: no such CELL.");
        for (int c : EdgesOfPoints.NO_CELLS) {
            none.stays("hangs(" + c + ")", Twins::three, x -> x.hangs(c), -1);
        }
        none.tells("hangs(0)", Twins::three, x -> x.hangs(0), 0, -1, -1, -1);
        Edge not = Edge.of(32, "-2: it is not FULL;");
        for (int c : new int[] {2, 4, 6, 7, 8, 12}) {
            not.stays("hangs(" + c + ")", Twins::three, x -> x.hangs(c), -2);
        }
        not.tells("hangs(3)", Twins::three, x -> x.hangs(3), 2, 1, 2, -1);
    }

    private static void hangsAtLeast() {
        Edge e = Edge.of(32, "all FULL ones then as many as now at least: how many;");
        // three: (1, 0) 2 or (0, 1) 2 leave one FULL CELL, (1, 1) 0 and (1, 1) 1 too
        e.tells("fewer", Twins::three, x -> x.hangs(0), 0, -1, -1, -1);
        // at first: (1, 0) 2 makes DOWN (0, 0) FULL, (0, 1) 2 UP (0, 1)
        e.tells("as many", () -> Twins.ready(new DoorWalk()), x -> x.hangs(0), 2, -1, 2, 2);
        Edge without = Edge.of(32, "for each of its three POINTS the first such LABEL (NONE without).");
        DoorWalk one = Check.labels("01210");
        without.is("GRID 1: none can have another", one.hangs(0), 0);
        without.row("GRID 1: none can have another", one, -1, -1, -1);
        without.tells("two have one", Twins::three, x -> x.hangs(3), 2, 1, 2, -1);
        without.tells("label 0 is one", Twins::byHand, x -> x.hangs(6), 3, 0, 2, 0);
    }

    private static void lone() {
        Edge e = Edge.of(33, "the ROW: FULL CELLS now, the first such POINT's number (NONE with 0), its LABEL then (NONE with 0).");
        e.tells("there is one", Twins::byHand, DoorWalk::lone, 0, 1, -1, -1);
        e.tells("(0, 1) as 2", Twins::three, DoorWalk::lone, 1, 3, 1, 2);
        DoorWalk one = Check.labels("01210");
        e.is("GRID 1", one.lone(), 0);
        e.row("GRID 1", one, 1, -1, -1);
        e.is("by EXCHANGE", Twins.byExchange().lone(), 0);
    }

    private static DoorWalk far() {
        // 2 at (1, 1) and at (1, 4) of GRID 6, beside the 1 of side 0: five FULL CELLS, two apart from three
        return Twins.ready(Check.labels("06" + "2111111" + "020020" + "00000" + "0000" + "000" + "00" + "0"));
    }

    private static void loneNone() {
        Edge e = Edge.of(33, "-2: none such.");
        e.stays("two would have to be", EdgesOfWhatIf::far, DoorWalk::lone, -2);
        DoorWalk x = far();
        e.is("FULL CELLS", x.count(5), 5);
        x.lays(1, 4, 0);
        e.is("once one is", x.lone(), 1);
        e.row("once one is", x, 3, 1, 2);
        x.lays(1, 1, 0);
        e.is("once both are", x.lone(), 0);
        Edge tried = Edge.of(33, "(1 at most is tried): 0, 1;");
        tried.stays("2 is not tried", EdgesOfWhatIf::far, DoorWalk::lone, -2);
        tried.tells("1 is", Twins::three, DoorWalk::lone, 1, 3, 1, 2);
        tried.tells("0 is", Twins::byHand, DoorWalk::lone, 0, 1, -1, -1);
    }
}
