/** Promises 41 to 44: keep, again, count, row. */
public final class KeptTest {
    private KeptTest() {
    }

    public static void main(String[] args) {
        keepAndAgain();
        refused();
        count();
        row();
        Check.finish();
    }

    private static void keepAndAgain() {
        DoorWalk x = Check.exchange("111111;123456");
        x.grid(5);
        String told = Check.told(x);
        Check.due("keep(0)", x.keep(0), true);
        x.lays(1, 1, (x.label(1, 1) + 1) % 3);
        String laid = Check.told(x);
        Check.due("keep(1)", x.keep(1), true);
        Check.text(x, "010001100");
        x.map();
        x.grid(2);
        x.point(1, 1);
        x.sign(0);
        Check.due("again(0)", x.again(0), true);
        Check.told("again(0)", x, told);
        Check.due("GRID", x.count(0), 5);
        Check.due("RULE", x.count(3), 1);
        Check.due("TRADERS", x.count(4), 2);
        Check.due("what could be undone is forgotten", x.count(6), 0);
        Check.row("the ROW stays", x, 1, 1, 0);
        Check.due("THE TEXT stays", x.count(8), 4);
        Check.due("the AMOUNT", x.amounts(1, 2, 3), -2);
        x.amounts(1, 2, 9);
        Check.due("again(1)", x.again(1), true);
        Check.told("again(1)", x, laid);
        Check.due("RULE", x.count(3), 0);
        Check.due("again(0) once more", x.again(0), true);
        Check.due("what is kept stays as it was", x.amounts(1, 2, 3), -2);
        Check.told("what is kept stays as it was", x, told);
        x.grid(1);
        Check.due("keep(0) in its place", x.keep(0), true);
        x.again(1);
        x.again(0);
        Check.due("GRID 1", x.count(0), 1);
        DoorWalk map = Check.map("010001100", 1);
        map.keep(1);
        Check.text(map, "999999999");
        map.map();
        map.again(1);
        map.grid(3);
        map.grid(4);
        Check.told("the MAP is kept", map, "22111" + "0011" + "000" + "00" + "0");
        DoorWalk other = new DoorWalk();
        Check.due("another object keeps nothing", other.again(1), false);
    }

    private static void refused() {
        DoorWalk x = new DoorWalk();
        x.point(1, 2);
        x.lays(1, 1, 1);
        Check.due("keep(-1)", x.keep(-1), false);
        Check.due("keep(2)", x.keep(2), false);
        Check.due("keep(max)", x.keep(Integer.MAX_VALUE), false);
        Check.due("again(-1)", x.again(-1), false);
        Check.due("again(2)", x.again(2), false);
        Check.due("again(0)", x.again(0), false);
        x.keep(1);
        Check.due("again(0), 1 is kept alone", x.again(0), false);
        Check.due("what can be undone", x.count(6), 1);
        Check.due("label(1, 1)", x.label(1, 1), 1);
        Check.row("the ROW stays", x, 1, 2, 1);
    }

    private static void count() {
        DoorWalk x = new DoorWalk();
        due(x, 4, 15, 16, 0, 0, 1, 0, 0, 0);
        Check.text(x, "111111;123456;000111");
        due(x, 4, 15, 16, 0, 0, 1, 0, 0, 20);
        x.exchange();
        x.grid(16);
        x.full();
        long full = x.count(5);
        Check.due("count(5)", full, x.full());
        due(x, 16, 153, 256, 1, 3, full, 2, 3, 0);
        Check.text(x, "010001100");
        x.map();
        Check.due("TRADERS of another RULE", x.count(4), 0);
        Check.due("RULE", x.count(3), 2);
        x = Check.labels("03" + "2111" + "020" + "00" + "0");
        due(x, 3, 10, 9, 0, 0, 3, 1, 0, 0);
        x = Check.labels("01210");
        due(x, 1, 3, 1, 0, 0, 1, 1, 0, 0);
        x.point(0, 0);
        Check.due("count(-1)", x.count(-1), -1);
        Check.due("count(9)", x.count(9), -1);
        Check.due("count(max)", x.count(Integer.MAX_VALUE), -1);
        Check.row("the ROW stays", x, 0, 0, 1);
    }

    private static void due(DoorWalk x, long... want) {
        for (int what = 0; what < want.length; what++) {
            Check.due("count(" + what + ")", x.count(what), want[what]);
        }
    }

    private static void row() {
        DoorWalk x = new DoorWalk();
        Check.none("row(0) of a new object", () -> x.row(0));
        x.point(1, 2);
        Check.due("row(2)", x.row(2), 1);
        Check.none("row(3)", () -> x.row(3));
        Check.none("row(-1)", () -> x.row(-1));
        Check.none("row(max)", () -> x.row(Integer.MAX_VALUE));
        Check.none("row(min)", () -> x.row(Integer.MIN_VALUE));
        x.cell(0);
        Check.due("row(3)", x.row(3), 1);
        x.nth(0);
        Check.none("a shorter one: row(1)", () -> x.row(1));
    }
}
