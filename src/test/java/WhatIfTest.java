/** Promises 31 to 33: were, hangs, lone. */
public final class WhatIfTest {
    private WhatIfTest() {
    }

    public static void main(String[] args) {
        were();
        hangs();
        lone();
        for (String signs : SOME) {
            oneByOne(signs);
        }
        Check.finish();
    }

    private static final String[] SOME = {
        "03" + "2111" + "020" + "00" + "0",
        "03" + "2121" + "010" + "01" + "0",
        "04" + "21211" + "0001" + "200" + "21" + "0",
        "04" + "22211" + "2020" + "220" + "00" + "0",
        "04" + "21111" + "0010" + "000" + "00" + "0",
        "04" + "22221" + "0121" + "201" + "20" + "0",
        "05" + "211111" + "00000" + "0120" + "000" + "00" + "0"};

    /** were(), hangs() and lone() against lays() of each other LABEL, on an object of its own. */
    private static void oneByOne(String signs) {
        DoorWalk x = Check.labels(signs);
        int n = x.count(0);
        int full = x.count(5);
        int[][] then = new int[x.count(1)][3];
        int first = -1;
        for (int i = 0; i <= n; i++) {
            for (int j = 0; j <= n - i; j++) {
                for (int v = 0; v < 3; v++) {
                    int p = x.point(i, j);
                    then[p][v] = after(signs, i, j, v);
                    if (then[p][v] == 1 && first == -1) {
                        first = 3 * p + v;
                    }
                }
            }
        }
        for (int c = 0; c < 2 * n * n; c++) {
            if (x.cell(c) == 1) {
                hangsOneByOne(x, c, full, then);
            }
        }
        if (full > 1) {
            Check.due("lone() of " + signs, x.lone(), first == -1 ? -2 : 1);
            if (first != -1) {
                Check.row("lone() of " + signs, x, full, first / 3, first % 3);
            }
        }
    }

    private static void hangsOneByOne(DoorWalk x, int c, int full, int[][] then) {
        int n = x.count(0);
        int i = c / 2 / n;
        int j = c / 2 % n;
        int[][] points = c % 2 == 0 ? new int[][] {{i, j}, {i + 1, j}, {i, j + 1}} : new int[][] {{i + 1, j + 1}, {i, j + 1}, {i + 1, j}};
        long[] firsts = {-1, -1, -1};
        int many = 0;
        for (int k = 0; k < 3; k++) {
            int p = x.point(points[k][0], points[k][1]);
            int was = x.label(points[k][0], points[k][1]);
            for (int v = 2; v >= 0; v--) {
                if (v != was && then[p][v] >= full) {
                    firsts[k] = v;
                }
            }
            many += firsts[k] == -1 ? 0 : 1;
        }
        Check.due("hangs(" + c + ")", x.hangs(c), many);
        Check.row("hangs(" + c + ")", x, firsts);
    }

    /** FULL CELLS once a LABEL is laid, which were() has to tell ahead; -1 if it can't be. */
    private static int after(String signs, int i, int j, int v) {
        DoorWalk x = Check.labels(signs);
        int n = x.count(0);
        int would = x.were(i, j, v);
        if (would < 0) {
            Check.due("lays(" + i + ", " + j + ", " + v + ")", x.lays(i, j, v), -4);
            return -1;
        }
        long turns = x.row(0);
        long fresh = x.row(1);
        int[] before = new int[2 * n * n];
        for (int c = 0; c < before.length; c++) {
            before[c] = x.cell(c);
        }
        x.lays(i, j, v);
        for (int c = 0; c < before.length; c++) {
            fresh -= x.cell(c) == 1 && before[c] == 0 ? 1 : 0;
        }
        String what = "were(" + i + ", " + j + ", " + v + ") of " + signs;
        Check.due(what, would, x.full());
        Check.due(what + ": TURNS", turns, x.row(0));
        Check.due(what + ": CELLS that are not FULL now", fresh, 0);
        return would;
    }

    /** GRID 3; FULL are 0 (TURN 1), 1 (TURN -1), 3 (TURN 1). */
    private static DoorWalk three() {
        return Check.labels("03" + "2111" + "020" + "00" + "0");
    }

    private static void were() {
        DoorWalk x = Check.labels("03" + "2111" + "000" + "00" + "0");
        Check.due("were(1, 1, 2)", x.were(1, 1, 2), 3);
        Check.row("were(1, 1, 2)", x, 1, 2);
        Check.due("as it is", x.were(1, 1, 0), 1);
        Check.row("as it is", x, 1, 0);
        Check.due("nothing changes", x.label(1, 1), 0);
        x = three();
        Check.due("were(1, 1, 0)", x.were(1, 1, 0), 1);
        Check.row("were(1, 1, 0)", x, 1, 0);
        // (0, 1) 2: 0 is 2 0 2, 1 is 2 2 0, 2 is 2 2 1, 3 stays
        Check.due("were(0, 1, 2)", x.were(0, 1, 2), 1);
        Check.row("were(0, 1, 2)", x, 1, 0);
        // (1, 0) 2: 0 is 2 2 1, 1 is 2 1 2, 3 stays
        Check.due("were(1, 0, 2)", x.were(1, 0, 2), 1);
        Check.row("were(1, 0, 2)", x, 1, 0);
        // (2, 1) 1: DOWN (1, 0) is 1 2 0, UP (1, 1) 2 1 0, UP (2, 0) 0 0 1
        Check.due("were(2, 1, 1)", x.were(2, 1, 1), 5);
        Check.row("were(2, 1, 1): 1 and -1 more", x, 1, 2);
        Check.due("were(2, 1, 2)", x.were(2, 1, 2), -4);
        Check.due("were(0, 0, 1)", x.were(0, 0, 1), -4);
        Check.due("were(1, 1, 3)", x.were(1, 1, 3), -1);
        Check.due("were(1, 1, -1)", x.were(1, 1, -1), -1);
        Check.due("were(2, 2, 0)", x.were(2, 2, 0), -1);
        Check.due("were(-1, 0, 0)", x.were(-1, 0, 0), -1);
        Check.due("were(0, -1, 0)", x.were(0, -1, 0), -1);
        Check.row("the ROW stays", x, 1, 2);
        Check.told("nothing changes", x, "2111020000");
        DoorWalk ruled = Check.exchange("111111");
        ruled.were(1, 1, 0);
        Check.due("RULE stays", ruled.count(3), 1);
        Check.due("nothing to undo", ruled.count(6), 1);
    }

    private static void hangs() {
        // GRID 1: no POINT can have another LABEL
        DoorWalk x = Check.labels("01210");
        Check.due("hangs(0)", x.hangs(0), 0);
        Check.row("hangs(0)", x, -1, -1, -1);
        x = new DoorWalk();
        // (1, 0) 2: DOWN (0, 0) 0 1 2 is FULL then; (0, 1) 2: DOWN (0, 0) 0 2 0 is not, UP (0, 1) 2 0 1 is
        Check.due("hangs(0)", x.hangs(0), 2);
        Check.row("hangs(0)", x, -1, 2, 2);
        x = three();
        // (1, 0) 2 leaves one; (0, 1) 2 leaves one
        Check.due("all FULL ones would be fewer", x.hangs(0), 0);
        Check.row("all FULL ones would be fewer", x, -1, -1, -1);
        // 3 is (1, 2) 0, (0, 2) 1, (1, 1) 2; (1, 2) 1: UP (1, 1) 2 0 1 is FULL instead; (0, 2) 2: UP (0, 1) 1 2 2,
        // UP (0, 2) 2 0 1 is FULL instead; (1, 1) 0 leaves one, (1, 1) 1: 1 is 1 1 0, UP (1, 0) 0 0 1
        Check.due("hangs(3)", x.hangs(3), 2);
        Check.row("hangs(3)", x, 1, 2, -1);
        Check.due("hangs(2)", x.hangs(2), -2);
        Check.due("hangs(5)", x.hangs(5), -1);
        Check.due("hangs(-1)", x.hangs(-1), -1);
        Check.due("hangs(18)", x.hangs(18), -1);
        Check.row("the ROW stays", x, 1, 2, -1);
        Check.told("nothing changes", x, "2111020000");
    }

    private static void lone() {
        DoorWalk x = new DoorWalk();
        Check.due("lone()", x.lone(), 0);
        Check.row("lone()", x, 1, -1, -1);
        x = three();
        // (0, 1), number 1, as 2 leaves 3 alone
        Check.due("lone()", x.lone(), 1);
        Check.row("the first such POINT", x, 3, 1, 2);
        Check.told("nothing changes", x, "2111020000");
        // two islands, 2 at (1, 1) and at (1, 4) of GRID 6, beside the 1 of side 0: five FULL CELLS, one change is not enough
        x = Check.labels("06" + "2111111" + "020020" + "00000" + "0000" + "000" + "00" + "0");
        Check.due("full()", x.full(), 5);
        Check.due("none such", x.lone(), -2);
        Check.row("the ROW stays", x, 1, 0, 9);
        // an island in the midst of 0, of 1 and of 2 side by side
        x = Check.labels("05" + "211111" + "00000" + "0120" + "000" + "00" + "0");
        Check.due("full()", x.full(), 3);
        Check.due("lone()", x.lone(), 1);
        Check.row("its 1 becomes 0: number 12", x, 3, 12, 0);
    }
}
