/** Promises 8 to 14: label, point, cell, full, nth, with, many. */
public final class PointsTest {
    private PointsTest() {
    }

    public static void main(String[] args) {
        label();
        point();
        cell();
        fullAndNth();
        with();
        many();
        Check.finish();
    }

    /** GRID 3 with three FULL CELLS: 0 (TURN 1), 1 (TURN -1), 3 (TURN 1). */
    private static DoorWalk three() {
        return Check.labels("03" + "2111" + "020" + "00" + "0");
    }

    private static void label() {
        DoorWalk x = three();
        Check.due("label(0, 0)", x.label(0, 0), 2);
        Check.due("label(0, 3)", x.label(0, 3), 1);
        Check.due("label(1, 1)", x.label(1, 1), 2);
        Check.due("label(3, 0)", x.label(3, 0), 0);
        Check.none("label(-1, 0)", () -> x.label(-1, 0));
        Check.none("label(0, -1)", () -> x.label(0, -1));
        Check.none("label(2, 2)", () -> x.label(2, 2));
        Check.none("label(4, 0)", () -> x.label(4, 0));
        Check.none("label(0, 4)", () -> x.label(0, 4));
        Check.none("label(max, max)", () -> x.label(Integer.MAX_VALUE, Integer.MAX_VALUE));
        Check.none("label(min, min)", () -> x.label(Integer.MIN_VALUE, Integer.MIN_VALUE));
        Check.none("label(max, 1 - max)", () -> x.label(Integer.MAX_VALUE, 1 - Integer.MAX_VALUE));
        Check.row("label() tells no ROW", x);
    }

    private static void point() {
        DoorWalk x = three();
        int number = 0;
        for (int i = 0; i <= 3; i++) {
            for (int j = 0; j <= 3 - i; j++) {
                Check.due("point(" + i + ", " + j + ")", x.point(i, j), number);
                Check.row("PRICES", x, i, j, 3 - i - j);
                number++;
            }
        }
        Check.due("point(1, 3)", x.point(1, 3), -1);
        Check.due("point(-1, 1)", x.point(-1, 1), -1);
        Check.due("point(1, -1)", x.point(1, -1), -1);
        Check.due("point(max, max)", x.point(Integer.MAX_VALUE, Integer.MAX_VALUE), -1);
        Check.row("the ROW stays", x, 3, 0, 0);
        x = Check.exchange("111111");
        x.grid(16);
        Check.due("the last of GRID 16", x.point(16, 0), 152);
        Check.due("(7, 5) of GRID 16", x.point(7, 5), 17 + 16 + 15 + 14 + 13 + 12 + 11 + 5);
        Check.row("PRICES", x, 7, 5, 4);
    }

    private static void cell() {
        DoorWalk x = three();
        Check.due("UP (0, 0)", x.cell(0), 1);
        Check.row("UP (0, 0)", x, 2, 0, 1, 1);
        Check.due("DOWN (0, 0): (1, 1), (0, 1), (1, 0)", x.cell(1), 1);
        Check.row("DOWN (0, 0)", x, 2, 1, 0, -1);
        Check.due("UP (0, 1): (0, 1), (1, 1), (0, 2)", x.cell(2), 0);
        Check.row("UP (0, 1)", x, 1, 2, 1, 0);
        Check.due("DOWN (0, 1): (1, 2), (0, 2), (1, 1)", x.cell(3), 1);
        Check.row("DOWN (0, 1)", x, 0, 1, 2, 1);
        Check.due("UP (0, 2)", x.cell(4), 0);
        Check.row("UP (0, 2)", x, 1, 0, 1, 0);
        Check.due("no DOWN (0, 2)", x.cell(5), -1);
        Check.due("UP (2, 0)", x.cell(12), 0);
        Check.row("UP (2, 0)", x, 0, 0, 0, 0);
        for (int none : new int[] {-1, 5, 9, 10, 11, 13, 14, 17, 18, Integer.MAX_VALUE, Integer.MIN_VALUE}) {
            Check.due("cell(" + none + ")", x.cell(none), -1);
        }
        Check.row("the ROW stays", x, 0, 0, 0, 0);
        DoorWalk one = Check.labels("01210");
        Check.due("the one CELL of GRID 1", one.cell(0), 1);
        Check.due("no DOWN there", one.cell(1), -1);
        // every order of three LABELS, and its TURN
        turn("0", "1", "2", 1);
        turn("1", "2", "0", 1);
        turn("2", "0", "1", 1);
    }

    /** LABELS of (1, 1), (2, 1), (1, 2) of GRID 4, which can have any: UP (1, 1) has them in this order. */
    private static void turn(String a, String b, String c, int due) {
        DoorWalk x = Check.labels("04" + "21111" + "0" + a + c + "0" + "0" + b + "0" + "00" + "0");
        Check.due("UP (1, 1) " + a + b + c, x.cell(10), 1);
        Check.row("its TURN", x, a.charAt(0) - '0', b.charAt(0) - '0', c.charAt(0) - '0', due);
        x = Check.labels("04" + "21111" + "0" + a + b + "0" + "0" + c + "0" + "00" + "0");
        Check.due("UP (1, 1) " + a + c + b, x.cell(10), 1);
        Check.row("its TURN", x, a.charAt(0) - '0', c.charAt(0) - '0', b.charAt(0) - '0', -due);
    }

    private static void fullAndNth() {
        DoorWalk x = three();
        Check.due("full()", x.full(), 3);
        Check.row("TURNS 1 - 1 + 1, the first, the last", x, 1, 0, 3);
        Check.due("nth(0)", x.nth(0), 0);
        Check.row("nth(0)", x, 1);
        Check.due("nth(1)", x.nth(1), 1);
        Check.row("nth(1)", x, -1);
        Check.due("nth(2)", x.nth(2), 3);
        Check.row("nth(2)", x, 1);
        x.nth(1);
        Check.due("nth(3)", x.nth(3), -1);
        Check.due("nth(-1)", x.nth(-1), -1);
        Check.due("nth(max)", x.nth(Integer.MAX_VALUE), -1);
        Check.row("the ROW stays", x, -1);
        x = Check.labels("02" + "211" + "20" + "0");
        Check.due("a DOWN one alone", x.full(), 1);
        Check.row("a DOWN one alone", x, 1, 1, 1);
    }

    private static void with() {
        DoorWalk x = three();
        // by NUMBERS: 0 201, 1 210, 2 121, 3 012, 4 101, 6 002, 7 020, 8 200, 12 000
        Check.due("with(1)", x.with(1), 1);
        Check.row("with(1)", x, 12);
        Check.due("with(2)", x.with(2), 0);
        Check.row("with(2)", x, -1);
        Check.due("with(3)", x.with(3), 1);
        Check.row("with(3)", x, 4);
        Check.due("with(4)", x.with(4), 0);
        Check.row("with(4)", x, -1);
        Check.due("with(5)", x.with(5), 3);
        Check.row("with(5)", x, 6);
        Check.due("with(6)", x.with(6), 1);
        Check.row("with(6)", x, 2);
        Check.due("with(7)", x.with(7), 3);
        Check.row("with(7)", x, 0);
        x.with(5);
        Check.due("with(0)", x.with(0), -1);
        Check.due("with(8)", x.with(8), -1);
        Check.due("with(-1)", x.with(-1), -1);
        Check.row("the ROW stays", x, 6);
    }

    private static void many() {
        DoorWalk x = three();
        Check.due("many(0)", x.many(0), 5);
        Check.row("all on the rim", x, 5);
        Check.due("many(1)", x.many(1), 3);
        Check.row("all on the rim", x, 3);
        Check.due("many(2)", x.many(2), 2);
        Check.row("(1, 1) is not", x, 1);
        Check.due("many(3)", x.many(3), -1);
        Check.due("many(-1)", x.many(-1), -1);
        Check.row("the ROW stays", x, 1);
    }
}
