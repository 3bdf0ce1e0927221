/** Boundary cases of promises 41 to 44: keep, again, count, row. */
final class EdgesOfKept {
    private static final int MAX = Integer.MAX_VALUE;
    private static final int MIN = Integer.MIN_VALUE;

    private EdgesOfKept() {
    }

    static void run() {
        keep();
        keepAll();
        again();
        count();
        counts();
        row();
        rowOfCalls();
    }

    private static void keep() {
        Edge e = Edge.of(41, "Refused: others.");
        for (int i : new int[] {-1, 2, 3, MAX, MIN}) {
            e.stays("keep(" + i + ")", Twins::byExchange, x -> x.keep(i) ? 1 : 0, 0);
            e.stays("keep(" + i + ")", () -> Twins.ready(new DoorWalk()), x -> x.keep(i) ? 1 : 0, 0);
        }
        for (int i = 0; i < 2; i++) {
            DoorWalk x = Twins.byExchange();
            e.is("keep(" + i + ")", x.keep(i), true);
            e.is("what can be undone stays", x.count(6), 3);
            e.is("THE TEXT stays", x.count(8), 9);
            e.row("the ROW stays", x, 1, 2, 0);
            x.lays(1, 1, 1);
            e.is("again(" + i + ")", x.again(i), true);
            e.labels("again(" + i + ")", x, "2211" + "201" + "00" + "0");
        }
    }

    private static void keepAll() {
        Edge e = Edge.of(41, "All that 1. tells of is kept under a number 0 .. 1: true.");
        Edge.Made[] all = {Twins::byHand, Twins::byExchange, Twins::byMap, Twins::three};
        for (int k = 0; k < all.length; k++) {
            DoorWalk x = all[k].make();
            e.is("keep(0)", x.keep(0), true);
            x.end(0);
            Check.text(x, "05" + "211111" + "00000" + "0000" + "000" + "00" + "0");
            x.labels();
            e.is("keep(1)", x.keep(1), true);
            e.is("again(0)", x.again(0), true);
            DoorWalk y = all[k].make();
            y.keep(0);
            y.end(0);
            Check.text(y, "05" + "211111" + "00000" + "0000" + "000" + "00" + "0");
            y.labels();
            y.keep(1);
            y.undo();
            y.keep(0);
            y.again(0);
            Twins.same("promise 41, of RULE " + y.count(3), x, y, false);
        }
        DoorWalk x = Twins.byExchange();
        x.keep(0);
        x.grid(16);
        x.keep(0);
        x.grid(1);
        e.is("again(0)", x.again(0), true);
        e.is("the later one is kept", x.count(0), 16);
        e.is("again(1)", x.again(1), true);
        e.is("the other is as it was", x.count(0), 3);
    }

    private static void again() {
        Edge e = Edge.of(42, "Refused: nothing kept.");
        for (int i : new int[] {-1, 0, 2, 3, MAX, MIN}) {
            e.stays("again(" + i + "), 1 is kept alone", Twins::byExchange, x -> x.again(i) ? 1 : 0, 0);
        }
        for (int i : new int[] {0, 1}) {
            e.is("again(" + i + ") of a new object", new DoorWalk().again(i), false);
        }
        DoorWalk x = Twins.byExchange();
        e.is("again(1)", x.again(1), true);
        e.is("once more", x.again(1), true);
        x.keep(0);
        e.is("then 0 is kept", x.again(0), true);
        Edge as = Edge.of(42, "It is as it was kept under a number.");
        x = Twins.byExchange();
        x.amounts(0, 0, 9);
        x.grid(5);
        as.is("again(1)", x.again(1), true);
        as.labels("again(1)", x, "2211" + "201" + "00" + "0");
        as.is("the AMOUNT", x.amounts(0, 0, 1), -2);
        as.row("the ROW stays", x, 1, 2, 0);
        as.is("THE TEXT stays", x.count(8), 9);
    }

    private static void count() {
        Edge e = Edge.of(43, "NONE for another what.");
        for (int what : new int[] {-1, 9, 10, MAX, MIN}) {
            e.stays("count(" + what + ")", Twins::byExchange, x -> x.count(what), -1);
        }
        int[] due = {3, 10, 9, 1, 1, 1, 3, 3, 9};
        for (int what = 0; what < due.length; what++) {
            int w = what;
            e.stays("count(" + what + ")", Twins::byExchange, x -> x.count(w), due[what]);
        }
    }

    private static void counts() {
        Edge e = Edge.of(43, "4: TRADERS (0 of another RULE)");
        e.is("RULE 1", Twins.byExchange().count(4), 1);
        e.is("RULE 0", Twins.byHand().count(4), 0);
        e.is("RULE 2", Twins.byMap().count(4), 0);
        e.is("four", Check.exchange("111111;111111;111111;111111").count(4), 4);
        Edge grids = Edge.of(43, "What 0: N, 1: POINTS, 2: CELLS,");
        DoorWalk x = Check.exchange("111111");
        for (int n = 1; n <= 16; n++) {
            x.grid(n);
            grids.is("N", x.count(0), n);
            grids.is("POINTS", x.count(1), (n + 1) * (n + 2) / 2);
            grids.is("CELLS", x.count(2), n * n);
        }
        Edge most = Edge.of(43, "6: what can be undone, 7: numbers of the ROW, 8: signs of THE TEXT.");
        most.is("8 at most", x.count(6), 8);
        most.is("none yet", x.count(7), 0);
        for (int k = 0; k < 20; k++) {
            x.sign(0);
        }
        most.is("80 at most", x.count(8), 80);
        most.is("81", x.sign(0), -1);
        most.is("80 at most", x.count(8), 80);
        x.cell(0);
        most.is("4 numbers", x.count(7), 4);
    }

    private static void row() {
        Edge e = Edge.of(44, "NoSuchElementException: none such.");
        for (int i : new int[] {-1, 3, 4, 15, 16, 17, MAX, MIN}) {
            e.stays("row(" + i + ") of three", Twins::byExchange, x -> x.row(i), Edge.THROWN);
        }
        e.stays("row(0)", Twins::byExchange, x -> x.row(0), 1);
        e.stays("row(1)", Twins::byExchange, x -> x.row(1), 2);
        e.stays("row(2)", Twins::byExchange, x -> x.row(2), 0);
        DoorWalk x = new DoorWalk();
        Check.none("promise 44: row(0) of a new object", () -> x.row(0));
        Check.none("promise 44: row(-1) of a new object", () -> x.row(-1));
    }

    /** How many numbers each call tells: the last one, and none behind it. */
    private static void rowOfCalls() {
        Edge e = Edge.of(44, "Number i of the ROW.");
        Edge.Asked[] calls = {
            x -> x.point(1, 1), x -> x.cell(0), DoorWalk::full, x -> x.nth(0), x -> x.with(7), x -> x.many(0), x -> x.outer(0), x -> x.doors(0),
            x -> x.walk(0, 0), x -> x.from(x.nth(0), 0), x -> x.hidden(0), x -> x.longest(0), DoorWalk::crossed, x -> x.finer(4), x -> x.within(0),
            DoorWalk::inner, x -> x.excess(1, 1), DoorWalk::best, DoorWalk::clears, x -> x.sells(1, 1, 1), x -> x.were(1, 1, 1), x -> x.hangs(x.nth(0)),
            DoorWalk::lone, x -> x.years(1, 1), x -> x.sheet(10, 2, 1, 0, 0)};
        int[] numbers = {3, 4, 3, 1, 1, 1, 1, 2, 3, 2, 1, 2, 1, 2, 4, 1, 4, 3, 4, 1, 2, 3, 3, 4, 2};
        DoorWalk x = Twins.byExchange();
        for (int k = 0; k < calls.length; k++) {
            calls[k].of(x);
            int many = numbers[k];
            e.is("call " + k, x.count(7), many);
            Check.none("promise 44, call " + k + ": row(" + many + ")", () -> x.row(many));
            e.is("call " + k + ": the last", x.row(many - 1) > MIN, true);
        }
        x.end(0);
        x.day();
        e.is("day()", x.count(7), 2);
    }
}
