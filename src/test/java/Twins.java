/** Two objects made by the same calls: whatever one was asked or refused since, all that can be seen of them is alike. */
final class Twins {
    /** THE TEXT of the objects made here: a MAP, so that its reading tells whether it is as it was. */
    static final String PENDING = "100010001";
    private static final int SMALL_GRID = 6;

    private Twins() {
    }

    /** GRID 3, LABELS by hand 2211 211 00 0: FULL is 6 alone. Something is kept, three can be undone. */
    static DoorWalk byHand() {
        DoorWalk x = Check.exchange("111111");
        x.grid(3);
        x.lays(1, 1, 1);
        return ready(x);
    }

    /** GRID 3, LABELS by EXCHANGE 2211 201 00 0: FULL is 2 alone. */
    static DoorWalk byExchange() {
        DoorWalk x = Check.map("010001100", 1);
        Check.text(x, "111111");
        x.exchange();
        x.grid(3);
        return ready(x);
    }

    /** GRID 3, LABELS by MAP 2211 001 00 0: FULL is 2 alone. */
    static DoorWalk byMap() {
        DoorWalk x = Check.exchange("111111");
        Check.text(x, "010001100");
        x.map();
        x.grid(3);
        return ready(x);
    }

    /** GRID 3 with three FULL CELLS: 0 (TURN 1), 1 (TURN -1), 3 (TURN 1). */
    static DoorWalk three() {
        return ready(Check.labels("03" + "2111" + "020" + "00" + "0"));
    }

    /** Keeps it under 1, tells a ROW (1 2 and what is left of N) and a TEXT. */
    static DoorWalk ready(DoorWalk x) {
        x.keep(1);
        x.point(1, 2);
        Check.text(x, PENDING);
        return x;
    }

    static void same(String what, DoorWalk x, DoorWalk y, boolean rowToo) {
        for (int k = 0; k <= 8; k++) {
            if (k != 7 || rowToo) {
                Check.due(what + ": count(" + k + ")", x.count(k), y.count(k));
            }
        }
        if (rowToo) {
            sameRow(what, x, y);
        }
        sameRule(what, x, y);
        sameUndone(what, x, y);
        Check.due(what + ": THE TEXT, read as a MAP", x.map(), y.map());
        sameLabels(what + ": THE TEXT read", x, y);
        for (int k = 0; k < 2; k++) {
            Check.due(what + ": again(" + k + ")", x.again(k), y.again(k));
            sameRule(what + ": again(" + k + ")", x, y);
        }
    }

    private static void sameUndone(String what, DoorWalk x, DoorWalk y) {
        int left = 0;
        for (int k = 0; k <= 8 && left >= 0; k++) {
            left = y.undo();
            Check.due(what + ": undo() " + k, x.undo(), left);
            sameLabels(what + ": undo() " + k, x, y);
        }
    }

    static void sameRow(String what, DoorWalk x, DoorWalk y) {
        long[] want = new long[y.count(7)];
        for (int k = 0; k < want.length; k++) {
            want[k] = y.row(k);
        }
        Check.row(what, x, want);
    }

    private static void sameLabels(String what, DoorWalk x, DoorWalk y) {
        Check.due(what + ": N", x.count(0), y.count(0));
        Check.due(what + ": RULE", x.count(3), y.count(3));
        if (y.count(0) <= SMALL_GRID) {
            Check.told(what, x, Check.told(y));
            return;
        }
        for (int set = 1; set <= 7; set++) {
            Check.due(what + ": with(" + set + ")", x.with(set), y.with(set));
            sameRow(what + ": with(" + set + ")", x, y);
        }
    }

    /** LABELS, and AMOUNTS, WISHES, the MAP by what they answer. */
    private static void sameRule(String what, DoorWalk x, DoorWalk y) {
        sameLabels(what, x, y);
        Check.due(what + ": TRADERS", x.count(4), y.count(4));
        if (y.count(3) != 0) {
            Check.due(what + ": finer(5)", x.finer(5), y.finer(5));
            sameRow(what + ": finer(5)", x, y);
        }
        if (y.count(3) == 1) {
            sameExcess(what, x, y, 0, 0);
            sameExcess(what, x, y, 1, 0);
            sameExcess(what, x, y, 0, 1);
            for (int g = 0; g < 3; g++) {
                Check.due(what + ": sells(0, 1, " + g + ")", x.sells(0, 1, g), y.sells(0, 1, g));
            }
        }
    }

    private static void sameExcess(String what, DoorWalk x, DoorWalk y, int i, int j) {
        String which = what + ": excess(" + i + ", " + j + ")";
        Check.due(which, x.excess(i, j), y.excess(i, j));
        sameRow(which, x, y);
    }
}
