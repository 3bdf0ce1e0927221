/**
 * Boundary cases of promises 15 to 23: outer, doors, walk, step, from, hidden, longest, crossed, leads. Of Twins.three()
 * FULL are 0, 1, 3; DOORS of kind 0: outside-0, 1-2-3; of kind 1: outside-0, 1-6-7-8-3; of kind 2: outside-4-3, 0-1.
 */
final class EdgesOfDoors {
    private static final int MAX = Integer.MAX_VALUE;
    private static final int MIN = Integer.MIN_VALUE;
    private static final int[] NO_KINDS = {-1, 3, 4, MAX, MIN};

    private EdgesOfDoors() {
    }

    static void run() {
        outer();
        outerMost();
        doors();
        walk();
        walkOut();
        step();
        from();
        fromOut();
        hidden();
        longest();
        longestIsThere();
        crossed();
        leads();
    }

    /** Two OUTER DOORS of kind 0 belong together: in at one, 2-3-4, out at the other. */
    private static DoorWalk together() {
        return Twins.ready(Check.labels("03" + "2121" + "011" + "00" + "0"));
    }

    private static void outer() {
        Edge e = Edge.of(15, "NONE: another kind.");
        for (int kind : NO_KINDS) {
            e.stays("outer(" + kind + ")", Twins::three, x -> x.outer(kind), -1);
        }
        e.tells("outer(0)", Twins::three, x -> x.outer(0), 1, 0);
        e.tells("outer(1)", Twins::three, x -> x.outer(1), 1, 0);
        e.tells("outer(2)", Twins::three, x -> x.outer(2), 1, 4);
        e.tells("three of kind 0", EdgesOfDoors::together, x -> x.outer(0), 3, 0, 2, 4);
        DoorWalk one = Check.labels("01210");
        for (int kind = 0; kind < 3; kind++) {
            e.is("GRID 1", one.outer(kind), 1);
            e.row("GRID 1", one, 0);
        }
    }

    /** LABELS in turn along a side of GRID 16: 15 OUTER DOORS, more can't be, as their number is odd. */
    private static void outerMost() {
        Edge e = Edge.of(15, "the ROW: CELLS behind them, by numbers of the DOORS (16 at most).");
        DoorWalk x = Check.exchange("111111");
        x.grid(16);
        for (int t = 1; t < 16; t++) {
            x.lays(0, t, t % 2 == 0 ? 2 : 1);
            x.lays(t, 0, t % 2 == 0 ? 2 : 0);
            x.lays(16 - t, t, t % 2 == 0 ? 0 : 1);
        }
        long[] behind0 = new long[15];
        long[] behind1 = new long[15];
        long[] behind2 = new long[15];
        for (int t = 0; t < 15; t++) {
            behind0[t] = 2 * t;
            behind1[t] = 2 * 16 * t;
            behind2[t] = 2 * (16 * (15 - t) + t);
        }
        e.is("outer(0)", x.outer(0), 15);
        e.row("UP (0, t)", x, behind0);
        e.is("outer(1)", x.outer(1), 15);
        e.row("UP (t, 0)", x, behind1);
        e.is("outer(2)", x.outer(2), 15);
        e.row("UP (15 - t, t)", x, behind2);
        x.lays(0, 15, 2);
        e.is("the last DOOR of the side", x.outer(0), 15);
        e.is("UP (0, 15)", x.row(14), 30);
        e.is("two fewer", x.lays(0, 1, 2), 1);
        e.is("two fewer", x.outer(0), 13);
        e.is("the ROW is shorter", x.count(7), 13);
    }

    private static void doors() {
        Edge e = Edge.of(16, "NONE: another kind.");
        for (int kind : NO_KINDS) {
            e.stays("doors(" + kind + ")", Twins::three, x -> x.doors(kind), -1);
        }
        e.tells("doors(0)", Twins::three, x -> x.doors(0), 3, 3, 1);
        e.tells("doors(1)", Twins::three, x -> x.doors(1), 5, 3, 3);
        e.tells("doors(2)", Twins::three, x -> x.doors(2), 3, 3, 1);
        Edge once = Edge.of(16, "DOORS of a kind in all of the GRID, each once: how many;");
        DoorWalk one = Check.labels("01210");
        once.is("GRID 1", one.doors(0), 1);
        once.row("GRID 1", one, 1, 0);
        // UP (0, 0) and DOWN (0, 0) are FULL on both sides of one DOOR of kind 2
        DoorWalk x = Twins.three();
        once.is("between two CELLS: outside-4-3, 0-1", x.doors(2), 3);
        DoorWalk first = new DoorWalk();
        once.is("no CELL has two", first.doors(0), 1);
        once.row("no CELL has two", first, 1, 0);
    }

    private static void walk() {
        Edge e = Edge.of(17, "NONE: none such.");
        for (int kind : NO_KINDS) {
            e.stays("walk(" + kind + ", 0)", Twins::three, x -> x.walk(kind, 0), -1);
        }
        for (int k : new int[] {-1, 1, 2, MAX, MIN}) {
            e.stays("walk(2, " + k + ")", Twins::three, x -> x.walk(2, k), -1);
        }
        for (int k : new int[] {-1, 3, 4, MAX, MIN}) {
            e.stays("walk(0, " + k + ") of three", EdgesOfDoors::together, x -> x.walk(0, k), -1);
        }
        e.tells("walk(0, 0)", Twins::three, x -> x.walk(0, 0), 1, 0, 1, -1);
        e.tells("walk(2, 0)", Twins::three, x -> x.walk(2, 0), 2, 3, 1, -1);
    }

    private static void walkOut() {
        Edge e = Edge.of(17, "the OUTER DOOR through which it comes out (NONE without).");
        e.tells("NONE", EdgesOfDoors::together, x -> x.walk(0, 0), 1, 0, 1, -1);
        e.tells("in at 1, out at 2", EdgesOfDoors::together, x -> x.walk(0, 1), 3, 4, 0, 2);
        e.tells("in at 2, out at 1", EdgesOfDoors::together, x -> x.walk(0, 2), 3, 2, 0, 1);
        // a lone 1 at (2, 1): OUTER DOOR 0 of side 2 is the one through which it comes out
        DoorWalk x = Check.labels("03" + "2111" + "000" + "01" + "0");
        e.is("in at 1", x.walk(2, 1), 3);
        e.row("out at 0", x, 12, 0, 0);
    }

    private static void step() {
        Edge e = Edge.of(18, "NoSuchElementException: none such.");
        for (int kind : NO_KINDS) {
            e.stays("step(" + kind + ", 0, 0)", Twins::three, x -> x.step(kind, 0, 0), Edge.THROWN);
        }
        for (int k : new int[] {-1, 1, MAX, MIN}) {
            e.stays("step(2, " + k + ", 0)", Twins::three, x -> x.step(2, k, 0), Edge.THROWN);
        }
        for (int n : new int[] {-1, 2, 3, 512, 513, MAX, MIN}) {
            e.stays("step(2, 0, " + n + ")", Twins::three, x -> x.step(2, 0, n), Edge.THROWN);
        }
        e.stays("step(2, 0, 0)", Twins::three, x -> x.step(2, 0, 0), 4);
        e.stays("step(2, 0, 1)", Twins::three, x -> x.step(2, 0, 1), 3);
        e.stays("step(0, 2, 2)", EdgesOfDoors::together, x -> x.step(0, 2, 2), 2);
        e.stays("step(0, 2, 3)", EdgesOfDoors::together, x -> x.step(0, 2, 3), Edge.THROWN);
        e.stays("step(0, 3, 0)", EdgesOfDoors::together, x -> x.step(0, 3, 0), Edge.THROWN);
    }

    private static void from() {
        Edge e = Edge.of(19, "-2: it is not FULL;");
        for (int kind = 0; kind < 3; kind++) {
            int d = kind;
            for (int c : new int[] {2, 4, 6, 12}) {
                e.stays("from(" + c + ", " + kind + ")", Twins::three, x -> x.from(c, d), -2);
            }
        }
        e.is("FULL", Twins.three().from(3, 0), 2);
        Edge none = Edge.of(19, "NONE: no such CELL, kind.");
        for (int c : EdgesOfPoints.NO_CELLS) {
            none.stays("from(" + c + ", 0)", Twins::three, x -> x.from(c, 0), -1);
        }
        for (int kind : NO_KINDS) {
            none.stays("from(0, " + kind + ")", Twins::three, x -> x.from(0, kind), -1);
            none.stays("from(2, " + kind + "), not FULL", Twins::three, x -> x.from(2, kind), -1);
            none.stays("from(5, " + kind + ")", Twins::three, x -> x.from(5, kind), -1);
        }
        none.tells("from(0, 2)", Twins::three, x -> x.from(0, 2), 1, 1, -1);
    }

    private static void fromOut() {
        Edge itself = Edge.of(19, "the ROW: the last one (itself, if there is none),");
        itself.tells("its DOOR is an OUTER one", Twins::three, x -> x.from(0, 0), 0, 0, 0);
        itself.tells("its DOOR is an OUTER one", Twins::three, x -> x.from(0, 1), 0, 0, 0);
        itself.tells("one behind it", Twins::three, x -> x.from(3, 2), 1, 4, 0);
        DoorWalk one = Check.labels("01210");
        itself.is("GRID 1", one.from(0, 2), 0);
        itself.row("GRID 1", one, 0, 0);
        Edge out = Edge.of(19, "the OUTER DOOR through which one comes out, NONE if one comes to another FULL CELL.");
        out.tells("to 3", Twins::three, x -> x.from(1, 0), 2, 3, -1);
        out.tells("to 1", Twins::three, x -> x.from(3, 1), 4, 1, -1);
        out.tells("out at 0", Twins::three, x -> x.from(3, 2), 1, 4, 0);
        // along side 0 2 1 2 1: OUTER DOORS 0, 1, 2 lead to 0, 3, 4
        DoorWalk x = Check.labels("03" + "2121" + "010" + "00" + "0");
        out.is("from(4, 0)", x.from(4, 0), 0);
        out.row("out at 2, the last", x, 4, 2);
        out.is("from(3, 0)", x.from(3, 0), 1);
        out.row("out at 1", x, 2, 1);
        out.is("from(0, 0)", x.from(0, 0), 0);
        out.row("out at 0, the first", x, 0, 0);
    }

    private static void hidden() {
        Edge e = Edge.of(20, "NONE: another kind.");
        for (int kind : NO_KINDS) {
            e.stays("hidden(" + kind + ")", Twins::three, x -> x.hidden(kind), -1);
        }
        e.tells("hidden(0)", Twins::three, x -> x.hidden(0), 2, 1);
        e.tells("hidden(2)", Twins::three, x -> x.hidden(2), 2, 0);
        Edge first = Edge.of(20, "the ROW: the first of them (NONE without).");
        first.tells("without", Twins::byHand, x -> x.hidden(0), 0, -1);
        first.tells("without", EdgesOfDoors::together, x -> x.hidden(0), 0, -1);
        first.tells("0 is the first", Twins::three, x -> x.hidden(2), 2, 0);
    }

    private static void longest() {
        Edge e = Edge.of(21, "NONE: another kind.");
        for (int kind : NO_KINDS) {
            e.stays("longest(" + kind + ")", Twins::three, x -> x.longest(kind), -1);
        }
        e.tells("longest(0)", Twins::three, x -> x.longest(0), 0, 1, 8);
        e.tells("longest(2)", Twins::three, x -> x.longest(2), 0, 2, 7);
        Edge equal = Edge.of(21, "the DOOR (of equal ones the first);");
        equal.tells("1 and 2 are equal", EdgesOfDoors::together, x -> x.longest(0), 1, 3, 5);
        // along side 0 2 1 2 1, each DOOR to a FULL CELL behind it
        DoorWalk x = Check.labels("03" + "2121" + "000" + "00" + "0");
        equal.is("0, 1 and 2 are equal", x.longest(0), 0);
        equal.row("0, 1 and 2 are equal", x, 1, 6);
        Edge apart = Edge.of(21, "how many of all CELLS no WALK of that kind goes through.");
        DoorWalk one = Check.labels("01210");
        apart.is("GRID 1", one.longest(0), 0);
        apart.row("none is left", one, 1, 0);
        DoorWalk all = Check.labels("02" + "221" + "21" + "0");
        // side 2 is 0 1 1: in at UP (1, 0)
        apart.is("GRID 2", all.longest(2), 0);
        apart.row("UP (1, 0) is FULL at once", all, 1, 3);
    }

    /** "-2: there is none" can't come: each side goes from one LABEL to the other, so it has an OUTER DOOR. */
    private static void longestIsThere() {
        Edge e = Edge.of(21, "-2: there is none;");
        for (int set = 0; set < 8; set++) {
            String told = "02" + "2" + (1 + (set & 1)) + "1" + (set & 2) + (set >> 2) + "0";
            DoorWalk x = Check.labels(told);
            for (int kind = 0; kind < 3; kind++) {
                int outers = x.outer(kind);
                e.is(told + ", OUTER DOORS of kind " + kind, outers % 2, 1);
                e.is(told + ", longest(" + kind + ")", x.longest(kind) >= 0, true);
            }
        }
    }

    private static void crossed() {
        Edge e = Edge.of(22, "CELLS that lie on WALKS of a kind 0 and of a kind 1 and of a kind 2: how many; the ROW: of them FULL ones.");
        e.tells("of 0, 1 and of 2 apart", Twins::three, DoorWalk::crossed, 0, 0);
        e.tells("all at 6", Twins::byHand, DoorWalk::crossed, 1, 1);
        DoorWalk one = Check.labels("01210");
        e.is("GRID 1", one.crossed(), 1);
        e.row("GRID 1", one, 1);
    }

    private static void leads() {
        Edge e = Edge.of(23, "the fewest CELLS one goes through (both, too; 1: they are one).");
        for (int c : new int[] {0, 1, 2, 3, 4, 6, 7, 8, 12}) {
            for (int kind = 0; kind < 3; kind++) {
                int d = kind;
                e.stays("leads(" + c + ", " + c + ", " + kind + ")", Twins::three, x -> x.leads(c, c, d), 1);
            }
        }
        e.stays("side by side", Twins::three, x -> x.leads(2, 3, 0), 2);
        e.stays("both, too", Twins::three, x -> x.leads(1, 3, 0), 3);
        Edge not = Edge.of(23, "-2: not;");
        not.stays("other DOORS of the kind", Twins::three, x -> x.leads(0, 1, 0), -2);
        not.stays("DOORS of another kind", Twins::three, x -> x.leads(0, 1, 1), -2);
        not.stays("DOORS of that kind", Twins::three, x -> x.leads(0, 1, 2), 2);
        not.stays("it has no DOOR", Twins::three, x -> x.leads(12, 8, 1), -2);
        not.stays("the other has none", Twins::three, x -> x.leads(8, 12, 1), -2);
        not.stays("not outside and in again", EdgesOfDoors::together, x -> x.leads(0, 2, 0), -2);
        not.stays("but within", EdgesOfDoors::together, x -> x.leads(4, 2, 0), 3);
        Edge none = Edge.of(23, "NONE: no such CELLS, kind.");
        for (int c : EdgesOfPoints.NO_CELLS) {
            none.stays("leads(" + c + ", 0, 0)", Twins::three, x -> x.leads(c, 0, 0), -1);
            none.stays("leads(0, " + c + ", 0)", Twins::three, x -> x.leads(0, c, 0), -1);
            none.stays("leads(" + c + ", " + c + ", 0)", Twins::three, x -> x.leads(c, c, 0), -1);
        }
        for (int kind : NO_KINDS) {
            none.stays("leads(0, 0, " + kind + ")", Twins::three, x -> x.leads(0, 0, kind), -1);
            none.stays("leads(0, 1, " + kind + ")", Twins::three, x -> x.leads(0, 1, kind), -1);
        }
    }
}
