/** Promises 34 to 40: lays, grid, swaps, amounts, day, undo, years. */
public final class ChangesTest {
    private static final String FIRST = "211110000000000";
    private static final String ALIKE = "221112211000000";

    private ChangesTest() {
    }

    public static void main(String[] args) {
        lays();
        grid();
        swaps();
        amounts();
        day();
        dayStops();
        dayRefused();
        undo();
        undoOfEach();
        undoOneBehindAnother();
        undoOfEight();
        years();
        yearsAreForgotten();
        yearsLeaveTheRule();
        yearsAnswerOfThen();
        yearsRefused();
        Check.finish();
    }

    private static void lays() {
        DoorWalk x = Check.exchange("111111");
        x.point(1, 2);
        Check.due("it is so", x.lays(1, 1, 2), -2);
        Check.due("it can't have that", x.lays(0, 1, 0), -4);
        Check.due("no LABEL", x.lays(1, 1, 3), -1);
        Check.due("no LABEL", x.lays(1, 1, -1), -1);
        Check.due("no POINT", x.lays(5, 0, 0), -1);
        Check.due("no POINT", x.lays(-1, 0, 0), -1);
        Check.due("no POINT", x.lays(0, -1, 0), -1);
        Check.due("no POINT", x.lays(Integer.MAX_VALUE, Integer.MAX_VALUE, 0), -1);
        Check.due("refused: RULE stays", x.count(3), 1);
        Check.due("refused: nothing to undo", x.count(6), 1);
        Check.told("refused: LABELS stay", x, ALIKE);
        Check.due("what it was", x.lays(1, 1, 1), 2);
        Check.told("lays(1, 1, 1)", x, "221112111000000");
        Check.due("RULE 0 then", x.count(3), 0);
        Check.due("it can be undone", x.count(6), 2);
        Check.row("the ROW stays", x, 1, 2, 1);
    }

    private static void grid() {
        DoorWalk x = Check.exchange("111111");
        x.point(1, 2);
        Check.due("grid(3)", x.grid(3), 1);
        Check.due("GRID", x.count(0), 3);
        Check.told("by the RULE", x, "2211201000");
        Check.due("RULE stays", x.count(3), 1);
        Check.due("it is so", x.grid(3), -2);
        Check.due("grid(0)", x.grid(0), -1);
        Check.due("grid(17)", x.grid(17), -1);
        Check.due("grid(-1)", x.grid(-1), -1);
        Check.due("what can be undone", x.count(6), 2);
        Check.due("grid(16)", x.grid(16), 1);
        Check.due("POINTS", x.count(1), 153);
        Check.due("grid(1)", x.grid(1), 1);
        Check.told("grid(1)", x, "210");
        Check.row("the ROW stays", x, 1, 2, 1);
        DoorWalk hand = new DoorWalk();
        Check.due("RULE 0", hand.grid(5), -3);
        Check.due("it is so, RULE 0", hand.grid(4), -2);
        Check.due("no GRID, RULE 0", hand.grid(17), -1);
        DoorWalk map = Check.map("010001100", 1);
        map.grid(3);
        map.grid(4);
        Check.told("by a MAP", map, "22111" + "0011" + "000" + "00" + "0");
    }

    private static void swaps() {
        DoorWalk x = Check.exchange("111111");
        x.point(1, 2);
        Check.due("alike", x.swaps(1, 1, 1, 0), -2);
        Check.due("one can't have that", x.swaps(0, 2, 1, 0), -4);
        Check.due("the other can't", x.swaps(1, 1, 4, 0), -4);
        Check.due("both are one", x.swaps(1, 1, 1, 1), -1);
        Check.due("no POINT", x.swaps(5, 0, 1, 1), -1);
        Check.due("no POINT", x.swaps(1, 1, 0, 5), -1);
        Check.due("no POINTS, both are one", x.swaps(5, 5, 5, 5), -1);
        Check.due("refused: RULE stays", x.count(3), 1);
        Check.due("refused: nothing to undo", x.count(6), 1);
        // (1, 1) 2 and (2, 1) 0 change places: UP (1, 1) is 0 2 1, and DOWN (1, 0) 2 0 0, UP (1, 0) 2 0 0, DOWN (0, 0) 0 2 2,
        // UP (0, 1) 2 0 1, DOWN (0, 1) 1 1 0, DOWN (1, 1) 0 1 2, UP (2, 1) 2 0 0, DOWN (2, 0) 0 2 0, UP (2, 0) 0 0 2
        Check.due("swaps(1, 1, 2, 1)", x.swaps(1, 1, 2, 1), 3);
        Check.told("swaps(1, 1, 2, 1)", x, "22111" + "2011" + "020" + "00" + "0");
        Check.due("RULE 0 then", x.count(3), 0);
        Check.due("it can be undone", x.count(6), 2);
        Check.row("the ROW stays", x, 1, 2, 1);
        Check.due("back", x.swaps(2, 1, 1, 1), 1);
        Check.told("back", x, ALIKE);
    }

    private static void amounts() {
        DoorWalk x = Check.exchange("111111;123456");
        x.point(1, 2);
        Check.due("it is so", x.amounts(1, 2, 3), -2);
        Check.due("no TRADER", x.amounts(2, 0, 1), -1);
        Check.due("no TRADER", x.amounts(3, 0, 1), -1);
        Check.due("no TRADER", x.amounts(4, 0, 1), -1);
        Check.due("no TRADER", x.amounts(-1, 0, 1), -1);
        Check.due("no GOOD", x.amounts(0, 3, 1), -1);
        Check.due("no GOOD", x.amounts(0, -1, 1), -1);
        Check.due("no AMOUNT", x.amounts(0, 0, 10), -1);
        Check.due("no AMOUNT", x.amounts(0, 0, -1), -1);
        Check.due("refused: nothing to undo", x.count(6), 1);
        Check.due("what it was", x.amounts(1, 2, 9), 3);
        Check.due("what it was", x.amounts(1, 1, 0), 2);
        Check.due("they can be undone", x.count(6), 3);
        Check.due("RULE stays", x.count(3), 1);
        Check.row("the ROW stays", x, 1, 2, 1);
        DoorWalk told = Check.exchange("111111;109456");
        Check.told("as if told so", x, Check.told(told));
        x.excess(2, 1);
        told.excess(2, 1);
        for (int k = 0; k < 4; k++) {
            Check.due("excess(2, 1)", x.row(k), told.row(k));
        }
        x.lays(1, 1, (x.label(1, 1) + 1) % 3);
        Check.due("RULE 0", x.amounts(0, 0, 5), -3);
        Check.due("RULE 0, no such TRADER of 0 .. 3", x.amounts(3, 0, 5), -3);
        Check.due("RULE 0, no TRADER 4", x.amounts(4, 0, 5), -1);
        Check.due("RULE 0, no GOOD", x.amounts(0, 3, 5), -1);
        Check.due("RULE 0, no AMOUNT", x.amounts(0, 0, 10), -1);
        Check.due("RULE 2", Check.map("100010001", 1).amounts(0, 0, 0), -3);
    }

    private static int day(DoorWalk x, String signs) {
        Check.text(x, signs);
        return x.day();
    }

    private static void day() {
        DoorWalk x = Check.exchange("111111");
        Check.due("nothing", x.day(), 0);
        Check.row("nothing", x, 0, 1);
        Check.due("nothing to undo", x.count(6), 1);
        Check.due("RULE stays", x.count(3), 1);
        Check.due("all four ACTS", day(x, "a019g03g04l01010s01010201"), 5);
        Check.due("THE TEXT is read", x.count(8), 0);
        Check.due("as one", x.count(6), 2);
        DoorWalk y = Check.exchange("111111");
        y.amounts(0, 1, 9);
        y.grid(3);
        y.grid(4);
        // at (1, 1), (2, 1) the EXCESS of GOOD 1 is the least now
        Check.due("lays(1, 1, 0)", y.lays(1, 1, 0), 1);
        Check.due("swaps(1, 1, 2, 1)", y.swaps(1, 1, 2, 1) > 0, true);
        Check.told("as by hand", x, Check.told(y));
        Check.row("none could not be; FULL CELLS", x, 0, y.full());
        Check.due("undone as one", x.undo(), 1);
        Check.told("undone", x, ALIKE);
        Check.due("RULE 1 again", x.count(3), 1);
        x.amounts(0, 1, 1);
        Check.due("the AMOUNT is as it was", x.amounts(0, 1, 1), -2);
        // (3, 1) has 0, (1, 3) has 1
        Check.due("each pair of digits", day(x, "s03010103"), 1);
        Check.told("each pair of digits", x, "22111" + "2210" + "000" + "01" + "0");
        x.undo();
        Check.due("two digits", day(x, "g16g10"), 2);
        Check.due("GRID", x.count(0), 10);
    }

    private static void dayStops() {
        DoorWalk x = new DoorWalk();
        Check.due("the second can't be, the third is not tried", day(x, "l01002g05l02002"), 1);
        Check.row("one could not be", x, 1, 1);
        Check.told("one is done", x, "211112000000000");
        Check.due("as one", x.count(6), 1);
        Check.due("the first can't be", day(x, "l01002l01000"), 0);
        Check.row("one could not be", x, 1, 1);
        Check.due("nothing to undo of it", x.count(6), 1);
        Check.due("THE TEXT is read", x.count(8), 0);
        Check.due("LABEL 9", day(x, "l01019"), 0);
        Check.due("POINT (99, 99)", day(x, "l99991"), 0);
        Check.due("no EXCHANGE", day(x, "a000"), 0);
        Check.due("both are one", day(x, "s01010101"), 0);
        Check.told("nothing is done", x, "211112000000000");
    }

    private static void dayRefused() {
        wrongDay("x", -1);
        wrongDay(" g05", -1);
        wrongDay("L01002", -1);
        wrongDay("l", -2);
        wrongDay("l0x002", -3);
        wrongDay("l01002g", -8);
        wrongDay("l01002g0", -9);
        wrongDay("l01002 g05", -7);
        wrongDay("l01002l0100", -12);
        wrongDay("l01002s0101010", -15);
        wrongDay("l01002a01", -10);
        wrongDay("l01002a0123", -11);
        wrongDay("l01002;", -7);
    }

    private static void wrongDay(String signs, int due) {
        DoorWalk x = new DoorWalk();
        x.point(1, 2);
        Check.due("day() of " + signs, day(x, signs), due);
        Check.due("THE TEXT is read", x.count(8), 0);
        Check.due("nothing to undo", x.count(6), 0);
        Check.row("the ROW stays", x, 1, 2, 1);
        Check.told("nothing is done", x, FIRST);
    }

    private static void undo() {
        DoorWalk x = new DoorWalk();
        x.point(1, 2);
        Check.due("none", x.undo(), -1);
        x.lays(1, 1, 1);
        x.lays(1, 1, 2);
        Check.due("one is left", x.undo(), 1);
        Check.due("the latest is undone", x.label(1, 1), 1);
        x.lays(2, 1, 2);
        Check.due("one is left", x.undo(), 1);
        Check.due("none is left", x.undo(), 0);
        Check.told("as at first", x, FIRST);
        Check.due("none", x.undo(), -1);
        Check.row("the ROW stays", x, 1, 2, 1);
        x.sign(0);
        x.lays(1, 1, 1);
        x.undo();
        Check.due("THE TEXT stays", x.count(8), 4);
    }

    private static void undoOfEach() {
        DoorWalk x = Check.exchange("111111;123456");
        Check.text(x, "010001100");
        x.map();
        Check.text(x, "01210");
        x.labels();
        Check.due("labels() is undone", x.undo(), 2);
        Check.due("GRID", x.count(0), 4);
        Check.due("RULE", x.count(3), 2);
        Check.told("the MAP's", x, "22111" + "0011" + "000" + "00" + "0");
        x.grid(3);
        x.undo();
        Check.told("grid() is undone", x, "22111" + "0011" + "000" + "00" + "0");
        Check.due("the MAP is there again", x.finer(4), 1);
        Check.due("map() is undone", x.undo(), 1);
        Check.due("RULE", x.count(3), 1);
        Check.due("TRADERS", x.count(4), 2);
        x.excess(1, 2);
        long was = x.row(1);
        x.amounts(1, 0, 9);
        x.excess(1, 2);
        Check.due("another EXCESS", x.row(1) == was, false);
        Check.due("amounts() is undone", x.undo(), 1);
        x.excess(1, 2);
        Check.due("the EXCESS again", x.row(1), was);
        Check.due("the AMOUNT again", x.amounts(1, 0, 1), -2);
        String told = Check.told(x);
        Check.due("swaps()", x.swaps(1, 1, 2, 1) >= 0 || x.swaps(1, 1, 1, 2) >= 0, true);
        Check.due("swaps() is undone", x.undo(), 1);
        Check.told("swaps() is undone", x, told);
        Check.due("RULE 1 again", x.count(3), 1);
        Check.due("exchange() is undone", x.undo(), 0);
        Check.told("exchange() is undone", x, FIRST);
        Check.due("TRADERS", x.count(4), 0);
    }

    /** Each of several is undone to what was ahead of it, not to what was ahead of another. */
    private static void undoOneBehindAnother() {
        DoorWalk x = Check.exchange("111111;123456");
        String[] told = new String[8];
        for (int k = 0; k < 8; k++) {
            told[k] = Check.told(x);
            switch (k) {
                case 0, 1 -> x.grid(5 - k % 2);
                case 2, 3 -> x.amounts(0, 0, 9 - k);
                case 4, 5 -> x.lays(1, 1, (x.label(1, 1) + 1) % 3);
                default -> Check.due("swaps()", x.swaps(1, 3, 3, 1) > 0, true);
            }
        }
        Check.due("eight", x.count(6), 8);
        for (int k = 7; k >= 0; k--) {
            Check.due("undo()", x.undo(), k);
            Check.told("undo() of " + k, x, told[k]);
        }
        Check.due("AMOUNT 0 of TRADER 0", x.amounts(0, 0, 1), -2);
        Check.text(x, "222111;333222;999999");
        x.exchange();
        x.undo();
        Check.due("TRADERS", x.count(4), 2);
        Check.due("WISHES too: sells(1, 2, 1)", x.sells(1, 2, 1), 3);
        Check.due("WISHES too: sells(1, 2, 2)", x.sells(1, 2, 2), 0);
        x.amounts(0, 0, 2);
        x.excess(1, 2);
        DoorWalk y = Check.exchange("211111;123456");
        y.excess(1, 2);
        Check.row("EXCESS by AMOUNTS and WISHES as they were", x, y.row(0), y.row(1), y.row(2), y.row(3));
    }

    private static void undoOfEight() {
        DoorWalk x = new DoorWalk();
        for (int k = 1; k <= 11; k++) {
            x.lays(1, 1, k % 3);
            Check.due("what can be undone", x.count(6), Math.min(k, 8));
        }
        x.lays(1, 1, 2);
        x.lays(9, 9, 9);
        Check.due("refused ones are not kept", x.count(6), 8);
        for (int k = 7; k >= 0; k--) {
            Check.due("undo()", x.undo(), k);
            Check.due("as ahead of it", x.label(1, 1), (3 + k) % 3);
        }
        Check.due("no more", x.undo(), -1);
        Check.due("the ninth stays", x.label(1, 1), 0);
        DoorWalk forgets = new DoorWalk();
        forgets.lays(1, 1, 1);
        forgets.keep(0);
        Check.due("keep() does not forget", forgets.count(6), 1);
        forgets.again(1);
        Check.due("again() that is refused does not", forgets.count(6), 1);
        forgets.again(0);
        Check.due("again() forgets", forgets.count(6), 0);
        Check.due("again() forgets", forgets.undo(), -1);
    }

    /** A DRAW as the document tells it, with longs. */
    private static long[] draws(long seed, int many, long n) {
        long r = seed & 0xffffffffL;
        long[] drawn = new long[2 * many];
        for (int k = 0; k < 2 * many; k++) {
            r = (r * 1103515245L + 12345L) & 0xffffffffL;
            drawn[k] = (r / 65536) % (k % 2 == 0 ? n : 3);
        }
        return drawn;
    }

    private static void years() {
        for (int seed : new int[] {0, 1, -1, 7, 123456789, Integer.MIN_VALUE}) {
            for (int n : new int[] {1, 2, 40}) {
                DoorWalk x = new DoorWalk();
                DoorWalk y = new DoorWalk();
                int full = x.years(seed, n);
                long[] drawn = draws(seed, n, 15);
                for (int k = 0; k < n; k++) {
                    int i = 0;
                    int j = (int) drawn[2 * k];
                    while (j > 4 - i) {
                        j -= 5 - i;
                        i++;
                    }
                    y.lays(i, j, (int) drawn[2 * k + 1]);
                }
                Check.due("years(" + seed + ", " + n + ")", full, y.full());
                long turns = y.row(0);
                Check.row("years(" + seed + ", " + n + ")", x, turns, y.outer(0), y.outer(1), y.outer(2));
                Check.told("years(" + seed + ", " + n + ") is forgotten", x, FIRST);
            }
        }
    }

    private static void yearsAreForgotten() {
        DoorWalk x = new DoorWalk();
        x.lays(1, 1, 1);
        x.keep(0);
        String told = Check.told(x);
        int full = x.years(5, 40);
        Check.due("years(5, 40) lays LABELS that make other CELLS FULL", full != x.count(5), true);
        Check.told("years(5, 40) is forgotten", x, told);
        Check.due("years(5, 40) once more", x.years(5, 40), full);
        Check.due("nothing of it can be undone", x.count(6), 1);
        Check.due("undo() goes back ahead of lays()", x.undo(), 0);
        Check.told("undone", x, FIRST);
        x.years(5, 40);
        Check.due("again(0)", x.again(0), true);
        Check.told("what was kept is as it was kept", x, told);
    }

    private static DoorWalk sixteen() {
        DoorWalk x = Check.exchange("911111;191111");
        x.grid(16);
        return x;
    }

    private static void yearsLeaveTheRule() {
        String told = Check.told(sixteen());
        for (int seed = 0; seed < 9; seed++) {
            DoorWalk x = sixteen();
            x.years(seed, 40);
            Check.due("RULE is 1 still", x.count(3), 1);
            Check.due("TRADERS are there still", x.count(4), 2);
            Check.due("so is the GRID", x.count(0), 16);
            Check.told("LABELS are by EXCHANGE", x, told);
        }
    }

    private static void yearsAnswerOfThen() {
        // R 12345 draws POINT 0, (0, 0): it can't have another LABEL; years(0, 1) is refused all it tries
        DoorWalk x = new DoorWalk();
        Check.due("years(0, 1)", x.years(0, 1), 1);
        Check.row("years(0, 1)", x, 1, 1, 1, 1);
        Check.due("years(0, 21)", x.years(0, 21), 3);
        Check.due("lone() of the LABELS of a new object", x.lone(), 0);
    }

    private static void yearsRefused() {
        DoorWalk x = new DoorWalk();
        x.point(1, 2);
        for (int n : new int[] {0, 41, -1, Integer.MAX_VALUE, Integer.MIN_VALUE}) {
            Check.due("years(5, " + n + ")", x.years(5, n), -1);
            Check.row("the ROW stays", x, 1, 2, 1);
            Check.told("refused", x, FIRST);
        }
    }
}
