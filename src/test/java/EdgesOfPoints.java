/** Boundary cases of promises 8 to 14: label, point, cell, full, nth, with, many. */
final class EdgesOfPoints {
    private static final int MAX = Integer.MAX_VALUE;
    private static final int MIN = Integer.MIN_VALUE;

    /** No POINTS of GRID 3: one step outside each side and each corner, and far outside. */
    static final int[][] OUTSIDE = {
        {-1, 0}, {-1, 3}, {-1, 4}, {0, -1}, {3, -1}, {4, -1}, {-1, -1}, {0, 4}, {1, 3}, {2, 2}, {3, 1}, {4, 0},
        {MAX, 0}, {0, MAX}, {MAX, MAX}, {MIN, 0}, {0, MIN}, {MIN, MIN}, {MAX, MIN}, {MIN, MAX}, {MAX, 1}, {1, MAX}, {MAX, -MAX}};

    /** No CELLS of GRID 3, whose CELLS are 0 .. 4, 6 .. 8, 12. */
    static final int[] NO_CELLS = {-1, -2, 5, 9, 10, 11, 13, 14, 15, 16, 17, 18, 19, MAX, MIN};

    private EdgesOfPoints() {
    }

    static void run() {
        label();
        point();
        cell();
        cellOfGrids();
        full();
        nth();
        with();
        many();
    }

    private static void label() {
        Edge e = Edge.of(8, "NoSuchElementException: none such.");
        for (int[] p : OUTSIDE) {
            e.stays("label(" + p[0] + ", " + p[1] + ")", Twins::byHand, x -> x.label(p[0], p[1]), Edge.THROWN);
        }
        // all of the rim, and (1, 1)
        int[][] on = {{0, 0}, {0, 1}, {0, 2}, {0, 3}, {1, 0}, {1, 1}, {1, 2}, {2, 0}, {2, 1}, {3, 0}};
        int[] labels = {2, 2, 1, 1, 2, 1, 1, 0, 0, 0};
        for (int k = 0; k < on.length; k++) {
            int[] p = on[k];
            e.stays("label(" + p[0] + ", " + p[1] + ")", Twins::byHand, x -> x.label(p[0], p[1]), labels[k]);
        }
        DoorWalk big = Check.exchange("111111");
        big.grid(16);
        e.is("label(16, 0) of GRID 16", big.label(16, 0), 0);
        e.is("label(0, 16) of GRID 16", big.label(0, 16), 1);
        Check.none("label(16, 1) of GRID 16", () -> big.label(16, 1));
        Check.none("label(17, 0) of GRID 16", () -> big.label(17, 0));
        Check.none("label(0, 17) of GRID 16", () -> big.label(0, 17));
        big.grid(1);
        e.is("label(1, 0) of GRID 1", big.label(1, 0), 0);
        Check.none("label(1, 1) of GRID 1", () -> big.label(1, 1));
        Check.none("label(2, 0) of GRID 1", () -> big.label(2, 0));
    }

    private static void point() {
        Edge e = Edge.of(9, "NONE: none such.");
        for (int[] p : OUTSIDE) {
            e.stays("point(" + p[0] + ", " + p[1] + ")", Twins::byHand, x -> x.point(p[0], p[1]), -1);
        }
        e.tells("point(0, 0)", Twins::byHand, x -> x.point(0, 0), 0, 0, 0, 3);
        e.tells("point(0, 3)", Twins::byHand, x -> x.point(0, 3), 3, 0, 3, 0);
        e.tells("point(1, 0)", Twins::byHand, x -> x.point(1, 0), 4, 1, 0, 2);
        e.tells("point(1, 2)", Twins::byHand, x -> x.point(1, 2), 6, 1, 2, 0);
        e.tells("point(2, 1)", Twins::byHand, x -> x.point(2, 1), 8, 2, 1, 0);
        e.tells("point(3, 0)", Twins::byHand, x -> x.point(3, 0), 9, 3, 0, 0);
        DoorWalk big = Check.exchange("111111");
        big.grid(16);
        e.is("(16, 0) of GRID 16", big.point(16, 0), 152);
        e.row("(16, 0) of GRID 16", big, 16, 0, 0);
        e.is("(15, 1) of GRID 16", big.point(15, 1), 151);
        e.is("(16, 1) of GRID 16", big.point(16, 1), -1);
        e.row("the ROW stays", big, 15, 1, 0);
    }

    private static void cell() {
        Edge e = Edge.of(10, "NONE: none such.");
        for (int c : NO_CELLS) {
            e.stays("cell(" + c + ")", Twins::three, x -> x.cell(c), -1);
        }
        // by NUMBERS: 0 201, 1 210, 2 121, 3 012, 4 101, 6 002, 7 020, 8 200, 12 000
        int[] cells = {0, 1, 2, 3, 4, 6, 7, 8, 12};
        int[][] told = {{2, 0, 1, 1}, {2, 1, 0, -1}, {1, 2, 1, 0}, {0, 1, 2, 1}, {1, 0, 1, 0}, {0, 0, 2, 0}, {0, 2, 0, 0}, {2, 0, 0, 0}, {0, 0, 0, 0}};
        for (int k = 0; k < cells.length; k++) {
            int c = cells[k];
            int[] t = told[k];
            e.tells("cell(" + c + ")", Twins::three, x -> x.cell(c), t[3] == 0 ? 0 : 1, t[0], t[1], t[2], t[3]);
        }
        Edge turn = Edge.of(10, "TURN (0 if it is not FULL).");
        DoorWalk x = Twins.three();
        turn.is("not FULL", x.cell(2), 0);
        turn.row("not FULL", x, 1, 2, 1, 0);
        turn.is("FULL", x.cell(3), 1);
        turn.row("FULL", x, 0, 1, 2, 1);
        turn.is("FULL, the other way", x.cell(1), 1);
        turn.row("FULL, the other way", x, 2, 1, 0, -1);
    }

    private static void cellOfGrids() {
        Edge e = Edge.of(10, "A CELL: 1 if it is FULL, else 0;");
        DoorWalk one = Check.labels("01210");
        e.is("GRID 1: UP (0, 0)", one.cell(0), 1);
        for (int c : new int[] {-1, 1, 2, 3}) {
            e.is("GRID 1: cell(" + c + ")", one.cell(c), -1);
        }
        DoorWalk two = Check.labels("02211000");
        for (int c = -1; c <= 8; c++) {
            e.is("GRID 2: cell(" + c + ")", two.cell(c) >= 0, c == 0 || c == 1 || c == 2 || c == 4);
        }
        DoorWalk big = Check.exchange("111111");
        big.grid(16);
        int many = 0;
        // at most 512 calls of an object: every NUMBER of the first two rows, and of the last two
        for (int c = -1; c <= 64; c++) {
            many += big.cell(c) >= 0 ? 1 : 0;
        }
        e.is("GRID 16: 31 and 29 CELLS of i 0, 1, and UP (2, 0)", many, 31 + 29 + 1);
        e.is("UP (0, 15)", big.cell(30) >= 0, true);
        e.is("no DOWN (0, 15)", big.cell(31), -1);
        e.is("UP (1, 0)", big.cell(32) >= 0, true);
        e.is("DOWN (1, 13)", big.cell(2 * (16 + 13) + 1) >= 0, true);
        e.is("no DOWN (1, 14)", big.cell(2 * (16 + 14) + 1), -1);
        e.is("no UP (1, 15)", big.cell(2 * (16 + 15)), -1);
        e.is("UP (15, 0)", big.cell(480), 0);
        for (int c = 481; c <= 514; c++) {
            e.is("cell(" + c + ")", big.cell(c), -1);
        }
    }

    private static void full() {
        Edge e = Edge.of(11, "the ROW: TURNS of these together, the first, the last one (NONE without).");
        // each side has an odd number of OUTER DOORS, so some CELL is FULL whatever the LABELS are
        e.tells("one", Twins::byHand, DoorWalk::full, 1, 1, 6, 6);
        e.tells("three, one of them turned the other way", Twins::three, DoorWalk::full, 3, 1, 0, 3);
        DoorWalk one = Check.labels("01210");
        e.is("GRID 1", one.full(), 1);
        e.row("GRID 1", one, 1, 0, 0);
        DoorWalk down = Check.labels("02" + "211" + "20" + "0");
        e.is("a DOWN one alone", down.full(), 1);
        e.row("a DOWN one alone", down, 1, 1, 1);
    }

    private static void nth() {
        Edge e = Edge.of(12, "NONE: none such.");
        for (int k : new int[] {-1, 3, 4, MAX, MIN}) {
            e.stays("nth(" + k + ") of three", Twins::three, x -> x.nth(k), -1);
        }
        e.tells("nth(0)", Twins::three, x -> x.nth(0), 0, 1);
        e.tells("nth(1)", Twins::three, x -> x.nth(1), 1, -1);
        e.tells("nth(2)", Twins::three, x -> x.nth(2), 3, 1);
        e.stays("nth(1) of one", Twins::byHand, x -> x.nth(1), -1);
        e.tells("nth(0) of one", Twins::byHand, x -> x.nth(0), 6, 1);
    }

    private static void with() {
        Edge e = Edge.of(13, "NONE: another set.");
        for (int set : new int[] {0, 8, 9, 15, -1, -7, MAX, MIN}) {
            e.stays("with(" + set + ")", Twins::three, x -> x.with(set), -1);
        }
        int[] many = {0, 1, 0, 1, 0, 3, 1, 3};
        int[] first = {0, 12, -1, 4, -1, 6, 2, 0};
        for (int set = 1; set <= 7; set++) {
            int s = set;
            e.tells("with(" + set + ")", Twins::three, x -> x.with(s), many[set], first[set]);
        }
        Edge none = Edge.of(13, "the ROW: the first of them (NONE without).");
        none.tells("without", Twins::three, x -> x.with(2), 0, -1);
        none.tells("one", Twins::three, x -> x.with(1), 1, 12);
        none.tells("number 0 is the first", Twins::three, x -> x.with(7), 3, 0);
    }

    private static void many() {
        Edge e = Edge.of(14, "NONE: another one.");
        for (int label : new int[] {-1, 3, 4, MAX, MIN}) {
            e.stays("many(" + label + ")", Twins::three, x -> x.many(label), -1);
        }
        e.tells("many(0)", Twins::three, x -> x.many(0), 5, 5);
        e.tells("many(2)", Twins::three, x -> x.many(2), 2, 1);
        Edge rim = Edge.of(14, "how many of these are on the rim (some PRICE is 0).");
        // GRID 4: (1, 1), (1, 2), (2, 1) are within, each by one step
        DoorWalk x = Check.labels("04" + "21111" + "0220" + "020" + "00" + "0");
        rim.is("three within, one at a corner", x.many(2), 4);
        rim.row("three within, one at a corner", x, 1);
        rim.is("all on the rim", x.many(1), 4);
        rim.row("all on the rim", x, 4);
        rim.is("all on the rim", x.many(0), 7);
        rim.row("all on the rim", x, 7);
        DoorWalk one = Check.labels("01210");
        rim.is("GRID 1", one.many(0), 1);
        rim.row("GRID 1", one, 1);
    }
}
