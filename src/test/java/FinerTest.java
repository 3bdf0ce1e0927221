/** Promises 24 to 26: finer, within, inner. */
public final class FinerTest {
    private FinerTest() {
    }

    public static void main(String[] args) {
        finer();
        within();
        inner();
        Check.finish();
    }

    private static void finer() {
        // AMOUNTS and WISHES all alike: the LABEL is the first GOOD of the greatest PRICE
        DoorWalk x = Check.exchange("111111");
        Check.due("finer(1)", x.finer(1), 1);
        Check.row("finer(1)", x, 1, 0);
        // 2 1 1, 0 0, 0
        Check.due("finer(2)", x.finer(2), 1);
        Check.row("finer(2)", x, 1, 0);
        Check.due("finer(3)", x.finer(3), 1);
        Check.row("finer(3)", x, 1, 2);
        Check.due("finer(4)", x.finer(4), 1);
        Check.row("finer(4), as it is", x, 1, 10);
        Check.due("finer(16)", x.finer(16), 1);
        Check.due("TURNS", x.row(0), 1);
        Check.due("nothing changes", x.count(0), 4);
        Check.due("nothing changes", x.count(6), 1);
        Check.told("nothing changes", x, "22111" + "2211" + "000" + "00" + "0");
        x.point(1, 2);
        Check.due("finer(0)", x.finer(0), -1);
        Check.due("finer(17)", x.finer(17), -1);
        Check.due("finer(-1)", x.finer(-1), -1);
        x.lays(1, 1, 0);
        Check.due("RULE 0", x.finer(4), -3);
        Check.due("RULE 0: NONE comes first", x.finer(17), -1);
        Check.row("the ROW stays", x, 1, 2, 1);
        x = Check.map("010001100", 1);
        Check.due("by a MAP", x.finer(4), 1);
        Check.row("by a MAP: UP (0, 1) is 2 0 1", x, 1, 2);
    }

    private static void within() {
        DoorWalk x = Check.exchange("111111");
        x.grid(2);
        Check.due("UP (0, 0)", x.within(0), 0);
        Check.row("UP (0, 0)", x, 0, 1, 2, 8);
        Check.due("DOWN (0, 0)", x.within(1), 1);
        Check.row("DOWN (0, 0)", x, 3, 9, 10, 11);
        Check.due("UP (0, 1)", x.within(2), 0);
        Check.row("UP (0, 1)", x, 4, 5, 6, 12);
        Check.due("UP (1, 0)", x.within(4), 0);
        Check.row("UP (1, 0)", x, 16, 17, 18, 24);
        Check.due("no CELL", x.within(3), -1);
        Check.due("no CELL", x.within(-1), -1);
        Check.due("no CELL", x.within(8), -1);
        Check.row("the ROW stays", x, 16, 17, 18, 24);
        Check.due("GRID stays", x.count(0), 2);
        x.grid(8);
        Check.due("GRID 16 can be", x.within(0) >= 0, true);
        Check.row("GRID 16", x, 0, 1, 2, 32);
        x.grid(9);
        Check.due("GRID 18 can't", x.within(0), -4);
        Check.due("no CELL comes first", x.within(17), -1);
        x.lays(2, 2, 0);
        Check.due("RULE 0", x.within(0), -3);
        Check.row("the ROW stays", x, 0, 1, 2, 32);
        DoorWalk first = new DoorWalk();
        Check.due("RULE 0: NONE comes first", first.within(7), -1);
        Check.due("RULE 0", first.within(0), -3);
        x = Check.map("100010001", 1);
        Check.due("by a MAP", x.within(0), 1);
        Check.row("by a MAP", x, 0, 1, 2, 16);
        // every CELL of a finer GRID lies in one CELL of the coarser
        DoorWalk all = Check.exchange("123456");
        int sum = 0;
        for (int c = 0; c < 32; c++) {
            sum += Math.max(0, all.within(c));
        }
        Check.due("all CELLS together", sum, all.finer(8));
    }

    /** inner() against finer() of each n. */
    private static void oneByOne(String signs) {
        DoorWalk x = Check.exchange(signs);
        int due = -2;
        long cell = -1;
        for (int n = 4; n <= 16 && due == -2; n++) {
            x.finer(n);
            int c = (int) x.row(1);
            int i = c / 2 / n;
            int j = c / 2 % n;
            // no corner has a PRICE of 0: PRICE 2 is least at i and j together, and 1 for UP ones, 2 for DOWN ones
            if (i > 0 && j > 0 && i + j + 1 + c % 2 < n) {
                due = n;
                cell = c;
            }
        }
        Check.due("inner() of " + signs, x.inner(), due);
        if (due != -2) {
            Check.row("inner() of " + signs, x, cell);
        }
    }

    private static void inner() {
        DoorWalk x = Check.exchange("111111");
        Check.due("from N on", x.inner(), 4);
        Check.row("from N on", x, 10);
        x.grid(1);
        // GRID 1, 2: none within; GRID 3: UP (0, 1) has (0, 1)
        Check.due("the least n", x.inner(), 4);
        Check.row("the least n", x, 10);
        Check.due("GRID stays", x.count(0), 1);
        DoorWalk none = Check.map("100010001", 1);
        none.point(1, 2);
        Check.due("UP (0, 0) in each GRID", none.inner(), -2);
        Check.row("the ROW stays", none, 1, 2, 1);
        DoorWalk first = new DoorWalk();
        Check.due("RULE 0", first.inner(), -3);
        Check.row("the ROW stays", first);
        for (String signs : new String[] {"113311", "112131", "123456", "999911", "100999;910111"}) {
            oneByOne(signs);
        }
        none.grid(16);
        Check.due("GRID 16", none.inner(), -2);
        x.grid(16);
        Check.due("GRID 16", x.inner(), 16);
    }
}
