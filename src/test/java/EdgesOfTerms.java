/** Boundary cases that stand ahead of promise 1: what the object is, the terms. */
final class EdgesOfTerms {
    private EdgesOfTerms() {
    }

    static void run() {
        calls();
        grids();
        firstLabels();
        cells();
        turns();
        outerDoors();
        walks();
        rules();
        byExchange();
        byMap();
        questions();
        refusals();
        noneFirst();
        rowStays();
    }

    private static void calls() {
        Edge e = Edge.of(0, "An object is used for at most 512 calls after it has been made");
        DoorWalk x = new DoorWalk();
        x.sign(0x30313231);
        x.sign(0x30000000);
        x.end(5);
        for (int k = 4; k <= 509; k++) {
            e.is("call " + k, x.lays(1, 1, k % 3), k == 4 ? 0 : (k + 2) % 3);
        }
        e.is("call 510", x.undo(), 7);
        e.is("call 511", x.label(1, 1), 508 % 3);
        e.is("call 512", x.labels(), 3);
    }

    private static void grids() {
        Edge e = Edge.of(0, "GRID N 1 .. 16 (4 at first).");
        DoorWalk x = Check.exchange("111111");
        e.is("4 at first", x.count(0), 4);
        e.is("grid(1)", x.grid(1) >= 0, true);
        e.is("N 1: POINTS", x.count(1), 3);
        e.is("N 1: CELLS", x.count(2), 1);
        e.is("grid(16)", x.grid(16) >= 0, true);
        e.is("N 16: POINTS", x.count(1), 153);
        e.is("N 16: CELLS", x.count(2), 256);
        e.stays("grid(0)", Twins::byExchange, t -> t.grid(0), -1);
        e.stays("grid(17)", Twins::byExchange, t -> t.grid(17), -1);
        Edge points = Edge.of(0, "POINTS (i, j), i and j 0 or more, i and j together N at most");
        for (int n : new int[] {1, 2, 10, 16}) {
            x.grid(n);
            for (int i = 0; i <= n; i++) {
                points.is("N " + n + ", (" + i + ", N - i)", x.point(i, n - i) >= 0, true);
                points.is("N " + n + ", (" + i + ", N - i + 1)", x.point(i, n - i + 1), -1);
                points.is("N " + n + ", (" + i + ", -1)", x.point(i, -1), -1);
                points.is("N " + n + ", (-1, " + i + ")", x.point(-1, i), -1);
            }
        }
    }

    private static void firstLabels() {
        Edge e = Edge.of(0, "LABEL of a POINT: a GOOD of which its PRICE is not 0 (at first the first such one).");
        DoorWalk x = new DoorWalk();
        e.labels("at first", x, "21111" + "0000" + "000" + "00" + "0");
        // on each side one GOOD can't be, at a corner two can't
        int[][] sides = {{0, 1, 0}, {0, 3, 0}, {1, 0, 1}, {3, 0, 1}, {1, 3, 2}, {3, 1, 2}};
        for (int[] s : sides) {
            for (int v = 0; v < 3; v++) {
                e.is("were(" + s[0] + ", " + s[1] + ", " + v + ")", x.were(s[0], s[1], v) >= 0, v != s[2]);
            }
        }
        int[][] corners = {{0, 0, 2}, {0, 4, 1}, {4, 0, 0}};
        for (int[] c : corners) {
            for (int v = 0; v < 3; v++) {
                e.is("were(" + c[0] + ", " + c[1] + ", " + v + ")", x.were(c[0], c[1], v) >= 0, v == c[2]);
            }
        }
        int[][] inside = {{1, 1}, {1, 2}, {2, 1}};
        for (int[] p : inside) {
            for (int v = 0; v < 3; v++) {
                e.is("were(" + p[0] + ", " + p[1] + ", " + v + ")", x.were(p[0], p[1], v) >= 0, true);
            }
        }
    }

    private static void cells() {
        Edge up = Edge.of(0, "UP (i, j), i and j together N less 1 at most");
        Edge down = Edge.of(0, "DOWN (i, j), i and j together N less 2 at most");
        DoorWalk x = Check.exchange("111111");
        for (int n : new int[] {1, 2, 3, 16}) {
            x.grid(n);
            int many = 0;
            for (int i = 0; i < n; i += Math.max(1, n / 4)) {
                int last = n - 1 - i;
                up.is("N " + n + ", UP (" + i + ", " + last + ")", x.cell(2 * (n * i + last)) >= 0, true);
                // UP (i, N - i) has no NUMBER of its own at i 0: it would be UP (1, 0)
                up.is("N " + n + ", UP (" + i + ", " + (last + 1) + ")", i > 0 && x.cell(2 * (n * i + last + 1)) >= 0, false);
                down.is("N " + n + ", DOWN (" + i + ", " + last + ")", x.cell(2 * (n * i + last) + 1), -1);
                if (last > 0) {
                    down.is("N " + n + ", DOWN (" + i + ", " + (last - 1) + ")", x.cell(2 * (n * i + last - 1) + 1) >= 0, true);
                }
                many++;
            }
            up.is("some were seen", many > 0, true);
        }
    }

    private static void turns() {
        Edge e = Edge.of(0, "TURN of a FULL one: 1, if its LABELS in the order told are 0, 1, 2 or 1, 2, 0 or 2, 0, 1, else -1.");
        String[] orders = {"012", "120", "201", "021", "102", "210"};
        for (int k = 0; k < 6; k++) {
            char a = orders[k].charAt(0);
            char b = orders[k].charAt(1);
            char c = orders[k].charAt(2);
            int turn = k < 3 ? 1 : -1;
            // UP (1, 1) of GRID 4: (1, 1), (2, 1), (1, 2)
            DoorWalk x = Check.labels("04" + "21111" + "0" + a + c + "0" + "0" + b + "0" + "00" + "0");
            e.is("UP " + orders[k], x.cell(10), 1);
            e.row("UP " + orders[k], x, a - '0', b - '0', c - '0', turn);
            // DOWN (1, 1) of GRID 5: (2, 2), (1, 2), (2, 1)
            x = Check.labels("05" + "211111" + "00" + b + "00" + "0" + c + a + "0" + "000" + "00" + "0");
            e.is("DOWN " + orders[k], x.cell(13), 1);
            e.row("DOWN " + orders[k], x, a - '0', b - '0', c - '0', turn);
        }
        DoorWalk x = Check.labels("04" + "21111" + "0010" + "000" + "00" + "0");
        e.is("0 0 1 is not FULL", x.cell(10), 0);
        e.row("0 0 1 is not FULL", x, 0, 0, 1, 0);
    }

    private static void outerDoors() {
        Edge e = Edge.of(0, "OUTER DOORS of kind d: those on the side of which PRICE d is 0; numbered by j of the POINT of the lesser j, of side 1 by i (these from the least on).");
        // along side 0 (j rising) 2 1 2 1 1, along side 1 (i rising) 2 0 2 2 0, along side 2 (j rising) 0 1 0 1 1
        DoorWalk x = Check.labels("04" + "21211" + "0001" + "200" + "21" + "0");
        e.is("kind 0", x.outer(0), 3);
        e.row("kind 0: UP (0, 0), (0, 1), (0, 2)", x, 0, 2, 4);
        e.is("kind 1", x.outer(1), 3);
        e.row("kind 1: UP (0, 0), (1, 0), (3, 0)", x, 0, 8, 24);
        e.is("kind 2", x.outer(2), 3);
        e.row("kind 2: UP (3, 0), (2, 1), (1, 2)", x, 24, 18, 12);
    }

    private static void walks() {
        Edge e = Edge.of(0, "till the CELL has no other one (it is FULL then), or it comes out through an OUTER DOOR.");
        DoorWalk full = Check.labels("03" + "2121" + "010" + "00" + "0");
        e.is("till a FULL one", full.walk(0, 1), 2);
        e.row("till a FULL one", full, 3, 1, -1);
        DoorWalk out = Check.labels("03" + "2121" + "011" + "00" + "0");
        e.is("out again", out.walk(0, 1), 3);
        e.row("out again", out, 4, 0, 2);
        DoorWalk one = Check.labels("01210");
        for (int kind = 0; kind < 3; kind++) {
            e.is("one CELL alone, kind " + kind, one.walk(kind, 0), 1);
            e.row("one CELL alone, kind " + kind, one, 0, 1, -1);
        }
    }

    private static void rules() {
        Edge e = Edge.of(0, "RULE: 0 LABELS as told or by hand, 1 EXCHANGE, 2 MAP (0 at first).");
        DoorWalk x = new DoorWalk();
        e.is("at first", x.count(3), 0);
        Check.text(x, "111111");
        x.exchange();
        e.is("EXCHANGE", x.count(3), 1);
        Check.text(x, "100010001");
        x.map();
        e.is("MAP", x.count(3), 2);
        x.lays(1, 1, 1);
        e.is("by hand", x.count(3), 0);
        x.undo();
        e.is("undone", x.count(3), 2);
        Check.text(x, "01210");
        x.labels();
        e.is("as told", x.count(3), 0);
        Edge traders = Edge.of(0, "TRADERS 0, 1, .. (1 .. 4), each with three AMOUNTS 0 .. 9 and three WISHES 1 .. 9.");
        traders.is("one, AMOUNTS 0, WISHES 1", Check.exchange("000111").count(4), 1);
        traders.is("four, AMOUNTS 9, WISHES 9", Check.exchange("999999;999999;999999;999999").count(4), 4);
        traders.refusesText(Twins::byMap, "", DoorWalk::exchange, -1);
        traders.refusesText(Twins::byMap, "999999;999999;999999;999999;999999", DoorWalk::exchange, -28);
        traders.refusesText(Twins::byMap, "000110", DoorWalk::exchange, -6);
    }

    private static void byExchange() {
        Edge e = Edge.of(0, "LABEL by EXCHANGE: of GOODS of which PRICE is not 0 that of the least EXCESS (of equal ones the first).");
        DoorWalk x = Check.exchange("111111");
        // EXCESS is 4 less 3 times the PRICE
        e.is("PRICES 2 2 0: equal ones", x.label(2, 2), 0);
        e.is("PRICES 1 3 0", x.label(1, 3), 1);
        e.is("PRICES 0 2 2: equal ones", x.label(0, 2), 1);
        e.is("PRICES 0 1 3", x.label(0, 1), 2);
        e.is("PRICES 2 0 2: equal ones", x.label(2, 0), 0);
        e.is("PRICES 1 0 3", x.label(1, 0), 2);
        x.grid(3);
        e.is("PRICES 1 1 1: equal ones", x.label(1, 1), 0);
        // all EXCESSES are 0, that of a GOOD of PRICE 0 too
        x = Check.exchange("000111");
        e.is("GOOD 0 has no PRICE", x.label(0, 2), 1);
        e.is("GOODS 0, 1 have none", x.label(0, 0), 2);
        e.is("it has one", x.label(1, 2), 0);
        Edge off = Edge.of(0, "OFF at a POINT: the greatest size of its three EXCESSES.");
        x = Check.exchange("123456");
        x.excess(1, 2);
        off.row("one below 0 is the greatest in size", x, 17, -20, 3, 20);
        // income 9: 81 - 99, 9, 9
        x = Check.exchange("999911");
        x.grid(1);
        x.excess(1, 0);
        off.row("below 0", x, -18, 9, 9, 18);
        // income 9: 81, 9 - 99, 9
        x.excess(0, 1);
        off.row("81 is less than 90", x, 81, -90, 9, 90);
        // AMOUNTS 1 0 1, WISHES 9 9 1 at PRICES 1 0 1: income 2: 18 - 19, 18, 2 - 19
        x = Check.exchange("101991");
        x.grid(2);
        x.excess(1, 0);
        off.row("above 0", x, -1, 18, -17, 18);
    }

    private static void byMap() {
        Edge e = Edge.of(0, "together are S times PRICE g at most.");
        // rows 5 0 3, 1 4 0, 0 2 3
        DoorWalk x = Check.map("503140023", 6);
        e.is("PRICES 3 0 1: 18 is as much as 18", x.label(3, 0), 0);
        e.is("PRICES 2 1 1: 13 is above 12, 6 is as much as 6", x.label(2, 1), 1);
        e.is("PRICES 2 0 2: 16 is above 12, GOOD 1 has no PRICE", x.label(2, 0), 2);
        e.is("PRICES 4 0 0: 20 is below 24", x.label(4, 0), 0);
        Edge sums = Edge.of(0, "of each h M(0, h), M(1, h), M(2, h) together are S, above 0.");
        Check.map("100010001", 1);
        Check.map("999999999", 27);
        sums.refusesText(Twins::byExchange, "000000000", DoorWalk::map, -200);
        sums.is("of each column, not of each row", Check.map("111000222", 3).count(3), 2);
        sums.refusesText(Twins::byExchange, "102102102", DoorWalk::map, -200);
        sums.refusesText(Twins::byExchange, "111111110", DoorWalk::map, -200);
    }

    private static void asked(Edge e, Edge.Made made, String which) {
        Edge.Asked[] questions = {
            x -> x.label(1, 1), x -> x.point(0, 1), x -> x.cell(1), DoorWalk::full, x -> x.nth(0), x -> x.with(7), x -> x.many(1),
            x -> x.outer(1), x -> x.doors(2), x -> x.walk(2, 0), x -> x.step(2, 0, 0), x -> x.from(x.nth(0), 1), x -> x.hidden(1),
            x -> x.longest(2), DoorWalk::crossed, x -> x.leads(0, 2, 0), x -> x.finer(7), x -> x.within(2), DoorWalk::inner,
            x -> x.excess(1, 1), DoorWalk::best, DoorWalk::clears, x -> x.sells(1, 1, 1), x -> x.were(1, 1, 2), x -> x.hangs(x.nth(0)),
            DoorWalk::lone, x -> x.count(5), x -> x.row(0)};
        for (int k = 0; k < questions.length; k++) {
            DoorWalk x = made.make();
            e.is(which + ", question " + k + " is answered", questions[k].of(x) >= -3, true);
            Twins.same(which + ", question " + k, x, made.make(), false);
        }
    }

    private static void questions() {
        Edge e = Edge.of(0, "Questions change nothing.");
        asked(e, Twins::byHand, "by hand");
        asked(e, Twins::byExchange, "by EXCHANGE");
        asked(e, Twins::byMap, "by MAP");
        asked(e, Twins::three, "three FULL CELLS");
    }

    private static void refusals() {
        Edge e = Edge.of(0, "Refused calls answer NONE, or false, and change nothing but THE TEXT, which a call that reads it empties.");
        String[] signs = {"", "x", "0121", "111111;", "00000000", "l0101"};
        int[] ofLabels = {-1, -1, -5, -2, -2, -1};
        int[] ofMap = {-1, -1, -5, -7, -9, -1};
        for (int k = 0; k < signs.length; k++) {
            e.refusesText(Twins::byExchange, signs[k], DoorWalk::labels, ofLabels[k]);
            e.refusesText(Twins::byHand, signs[k], DoorWalk::map, ofMap[k]);
        }
        e.stays("sheet() does not read it", Twins::byExchange, x -> x.sheet(0, 4, 0, 0, 0), -1);
        e.stays("undo() does not read it", () -> Twins.ready(new DoorWalk()), DoorWalk::undo, -1);
        e.stays("keep(2)", Twins::byMap, x -> x.keep(2) ? 1 : 0, 0);
    }

    private static void noneFirst() {
        Edge e = Edge.of(0, "NONE comes ahead of other answers below 0");
        e.stays("sheet(): another kind, n below 0", Twins::byHand, x -> x.sheet(0, 4, -1, 0, 0), -1);
        e.stays("from(): no such kind, not FULL", Twins::byHand, x -> x.from(0, 3), -1);
        e.stays("from(): not FULL", Twins::byHand, x -> x.from(0, 2), -2);
        e.stays("leads(): no such kind, no way", Twins::byHand, x -> x.leads(0, 12, 3), -1);
        e.stays("leads(): no way", Twins::byHand, x -> x.leads(0, 12, 2), -2);
        e.stays("finer(): another n, RULE 0", Twins::byHand, x -> x.finer(17), -1);
        e.stays("finer(): RULE 0", Twins::byHand, x -> x.finer(16), -3);
        e.stays("within(): no such CELL, RULE 0", Twins::byHand, x -> x.within(5), -1);
        e.stays("within(): RULE 0", Twins::byHand, x -> x.within(4), -3);
        e.stays("excess(): no such POINT, RULE 2", Twins::byMap, x -> x.excess(0, 4), -1);
        e.stays("excess(): RULE 2", Twins::byMap, x -> x.excess(0, 3), -3);
        e.stays("sells(): no such GOOD, RULE 2", Twins::byMap, x -> x.sells(0, 3, 3), -1);
        e.stays("sells(): no such POINT, RULE 2", Twins::byMap, x -> x.sells(0, 4, 2), -1);
        e.stays("sells(): RULE 2", Twins::byMap, x -> x.sells(0, 3, 2), -3);
        e.stays("were(): no such LABEL at a corner", Twins::byMap, x -> x.were(0, 0, 3), -1);
        e.stays("were(): it can't have that", Twins::byMap, x -> x.were(0, 0, 1), -4);
        e.stays("lays(): no such LABEL at a corner", Twins::byMap, x -> x.lays(0, 0, 3), -1);
        e.stays("lays(): it can't have that", Twins::byMap, x -> x.lays(0, 0, 1), -4);
        e.stays("grid(): another n, RULE 0", Twins::byHand, x -> x.grid(0), -1);
        e.stays("grid(): RULE 0", Twins::byHand, x -> x.grid(1), -3);
        e.stays("swaps(): both are one, so they are alike", Twins::byHand, x -> x.swaps(1, 1, 1, 1), -1);
        e.stays("swaps(): they are alike", Twins::byHand, x -> x.swaps(1, 1, 1, 2), -2);
        e.stays("amounts(): no such v, RULE 0", Twins::byHand, x -> x.amounts(0, 0, 10), -1);
        e.stays("amounts(): RULE 0", Twins::byHand, x -> x.amounts(0, 0, 9), -3);
    }

    private static void rowStays() {
        Edge e = Edge.of(0, "and with calls that do not tell of it, but where it is said.");
        DoorWalk x = Twins.byExchange();
        long[] told = {1, 2, 0};
        x.map();
        e.row("map()", x, told);
        Check.text(x, "111111;191111");
        e.row("sign(), end()", x, told);
        x.exchange();
        e.row("exchange()", x, told);
        x.amounts(1, 1, 8);
        e.row("amounts()", x, told);
        x.grid(4);
        e.row("grid()", x, told);
        x.lays(1, 1, (x.label(1, 1) + 1) % 3);
        e.row("label(), lays()", x, told);
        e.is("swaps()", x.swaps(1, 0, 2, 0) >= 0, true);
        e.row("swaps()", x, told);
        x.sheet(6, 2, 1, 0, 0);
        e.row("sheet() that is done", x, told);
        x.step(0, 0, 0);
        x.leads(0, 2, 0);
        e.row("step(), leads()", x, told);
        x.undo();
        e.row("undo()", x, told);
        x.keep(0);
        x.again(0);
        e.row("keep(), again()", x, told);
        Check.text(x, "01210");
        x.labels();
        x.count(5);
        x.row(0);
        e.row("labels(), count(), row()", x, told);
        x.day();
        e.row("day() tells of it", x, 0, 1);
        x.years(1, 1);
        e.row("years() tells of it", x, 1, 1, 1, 1);
    }
}
