/** Promises 27 to 30: excess, best, clears, sells. */
public final class PricesTest {
    private PricesTest() {
    }

    public static void main(String[] args) {
        excess();
        best();
        clears();
        sells();
        otherRules();
        Check.finish();
    }

    private static void excess() {
        DoorWalk x = Check.exchange("123456");
        Check.due("excess(1, 2)", x.excess(1, 2), 0);
        // income 1 + 4 + 3; D 15: 32 - 15, 40 - 60, 48 - 45
        Check.row("excess(1, 2)", x, 17, -20, 3, 20);
        Check.due("excess(0, 0)", x.excess(0, 0), 0);
        // income 12: 48, 60, 72 - 180
        Check.row("excess(0, 0)", x, 48, 60, -108, 108);
        // two TRADERS, SUMS of WISHES 15 and 6, D 90
        x = Check.exchange("123456;400123");
        Check.due("excess(1, 2)", x.excess(1, 2), 0);
        // 8 4 6 + 4 1 15 - 90 1 5, 8 5 6 + 4 2 15 - 90 2 2, 8 6 6 + 4 3 15 - 90 1 3
        Check.row("two TRADERS", x, 252 - 450, 360 - 360, 468 - 270, 198);
        // the greatest that can be
        x = Check.exchange("900999;900999;900999;900999");
        x.grid(16);
        Check.due("excess(16, 0)", x.excess(16, 0), 0);
        Check.row("excess(16, 0)", x, -204073344L, 102036672L, 102036672L, 204073344L);
        Check.due("excess(17, 0)", x.excess(17, 0), -1);
        Check.due("excess(-1, 0)", x.excess(-1, 0), -1);
        Check.due("excess(0, -1)", x.excess(0, -1), -1);
        Check.row("the ROW stays", x, -204073344L, 102036672L, 102036672L, 204073344L);
    }

    private static void best() {
        DoorWalk x = Check.exchange("111111");
        // EXCESS is 4 less 3 times the PRICE: 2 at (1, 1), (1, 2), (2, 1)
        Check.due("of equal ones the first", x.best(), 6);
        Check.row("of equal ones the first", x, 1, 1, 2);
        x.grid(3);
        Check.due("best()", x.best(), 5);
        Check.row("best()", x, 1, 1, 0);
        // no TRADER has income at a corner, and none has of what has a PRICE there
        atCorner("110111", 0, 0, 0);
        atCorner("101111", 4, 0, 4);
        atCorner("011111", 14, 4, 0);
        // at PRICES 1 4 0 income is 17: 85 - 117, 119 - 104, 17
        x = Check.exchange("921571");
        x.grid(5);
        Check.due("on side 2", x.best(), 10);
        Check.row("on side 2", x, 1, 4, 32);
        x = Check.exchange("999911");
        // 9 times 36 - 11 PRICE 0, 4 - 11 PRICE 1, 4 - 11 PRICE 2: at (4, 0) 8 is the greatest, at (3, 0) 7
        Check.due("near a corner", x.best(), 12);
        Check.row("near a corner", x, 3, 0, 9 * 7);
    }

    private static void atCorner(String signs, int number, int i, int j) {
        DoorWalk x = Check.exchange(signs);
        Check.due("best() of " + signs, x.best(), number);
        Check.row("best() of " + signs, x, i, j, 0);
    }

    private static void clears() {
        DoorWalk x = Check.exchange("111111");
        Check.due("clears()", x.clears(), 10);
        Check.row("clears()", x, 1, 1, 2, 0);
        x.grid(3);
        Check.due("clears()", x.clears(), 2);
        Check.row("its second POINT", x, 1, 1, 0, 0);
        // all EXCESSES 0: the first CELL, its first POINT
        x = Check.exchange("000111");
        Check.due("of equal ones the first CELL", x.clears(), 0);
        Check.row("of equal ones the first CELL", x, 0, 0, 0, 0);
        // at (1, 2) EXCESSES are -3, -3, 6; at (1, 1), which is of no FULL CELL, they are -1, 4, -3
        x = Check.exchange("213113");
        Check.due("UP (0, 2)", x.clears(), 4);
        Check.row("its second POINT; one is less OFF", x, 1, 2, 6, 1);
        Check.due("best()", x.best(), 6);
        lessOff("133131", 4);
        lessOff("331223", 4);
        lessOff("999911", 7);
        // POINTS of each side and each corner are less OFF in these
        lessOff("101132;910885", 9);
        lessOff("911813", 3);
        lessOff("440291;192473", 2);
        lessOff("291282;290732", 5);
        lessOff("157134;007974", 5);
        lessOff("018861;901917", 6);
        // beyond side 2 there would be more
        lessOff("792971", 2);
        lessOff("921571", 5);
    }

    /** How many POINTS are less OFF, counted one by one. */
    private static void lessOff(String signs, int n) {
        DoorWalk x = Check.exchange(signs);
        x.grid(n);
        x.clears();
        long off = x.row(2);
        long told = x.row(3);
        int less = 0;
        for (int i = 0; i <= n; i++) {
            for (int j = 0; j <= n - i; j++) {
                x.excess(i, j);
                less += x.row(3) < off ? 1 : 0;
            }
        }
        Check.due("POINTS that are less OFF", told, less);
    }

    private static void sells() {
        DoorWalk x = Check.exchange("123456;400123");
        // TRADER 0: income 8, 32 to 15, 40 to 60, 48 to 45; TRADER 1: income 4, 4 to 24, 8 to 0, 12 to 0
        Check.due("sells(1, 2, 0)", x.sells(1, 2, 0), 2);
        Check.row("sells(1, 2, 0)", x, 1);
        Check.due("sells(1, 2, 1)", x.sells(1, 2, 1), 1);
        Check.row("sells(1, 2, 1)", x, 1);
        Check.due("sells(1, 2, 2)", x.sells(1, 2, 2), 0);
        Check.row("sells(1, 2, 2)", x, 0);
        // at (0, 4) TRADER 1 has no income: it buys nothing of anything
        Check.due("sells(0, 4, 1)", x.sells(0, 4, 1), 3);
        Check.row("sells(0, 4, 1)", x, 2);
        Check.due("sells(0, 4, 0)", x.sells(0, 4, 0), 2);
        Check.due("sells(5, 0, 0)", x.sells(5, 0, 0), -1);
        Check.due("sells(0, -1, 0)", x.sells(0, -1, 0), -1);
        Check.due("sells(0, 0, 3)", x.sells(0, 0, 3), -1);
        Check.due("sells(0, 0, -1)", x.sells(0, 0, -1), -1);
        Check.row("the ROW stays", x, 1);
        // as much as it has, to the last: 3 times 1 by 3 is 1 times 1; not rounded: 4 by 3 is above 1
        x = Check.exchange("111111;111111;111111;111111");
        x.grid(3);
        Check.due("as much as it has", x.sells(1, 1, 1), 15);
        Check.row("as much as it has", x, 4);
        x.grid(4);
        Check.due("a third above", x.sells(1, 1, 1), 0);
    }

    private static void otherRules() {
        DoorWalk hand = new DoorWalk();
        DoorWalk map = Check.map("100010001", 1);
        for (DoorWalk x : new DoorWalk[] {hand, map}) {
            x.point(1, 2);
            Check.due("excess(0, 0)", x.excess(0, 0), -3);
            Check.due("excess(5, 0): NONE comes first", x.excess(5, 0), -1);
            Check.due("best()", x.best(), -3);
            Check.due("clears()", x.clears(), -3);
            Check.due("sells(0, 0, 0)", x.sells(0, 0, 0), -3);
            Check.due("sells(0, 0, 3): NONE comes first", x.sells(0, 0, 3), -1);
            Check.due("sells(5, 0, 0): NONE comes first", x.sells(5, 0, 0), -1);
            Check.row("the ROW stays", x, 1, 2, 1);
        }
    }
}
