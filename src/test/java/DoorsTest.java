/** Promises 15 to 23: outer, doors, walk, step, from, hidden, longest, crossed, leads. */
public final class DoorsTest {
    private DoorsTest() {
    }

    public static void main(String[] args) {
        outer();
        outerOfSides();
        doors();
        walk();
        walkOut();
        step();
        from();
        hidden();
        longest();
        crossed();
        leads();
        leadsRound();
        Check.finish();
    }

    /**
     * GRID 3. FULL are 0, 1, 3. DOORS of kind 0: outside-0, 1-2-3; of kind 1: outside-0, 1-6-7-8-3; of kind 2:
     * outside-4-3, 0-1.
     */
    private static DoorWalk three() {
        return Check.labels("03" + "2111" + "020" + "00" + "0");
    }

    /** GRID 4 with a 0 at (1, 1) amid six 2: a ring 1-2-3-10-9-8 of DOORS of kind 1. */
    private static DoorWalk ring() {
        return Check.labels("04" + "22211" + "2020" + "220" + "00" + "0");
    }

    /** GRID 4; along side 0 2 1 2 1 1, along side 1 (i rising) 2 0 2 2 0, along side 2 (j rising) 0 1 0 1 1; inside 0. */
    private static DoorWalk sides() {
        return Check.labels("04" + "21211" + "0001" + "200" + "21" + "0");
    }

    private static void outer() {
        DoorWalk x = three();
        Check.due("outer(0)", x.outer(0), 1);
        Check.row("outer(0)", x, 0);
        Check.due("outer(1)", x.outer(1), 1);
        Check.row("outer(1)", x, 0);
        Check.due("outer(2)", x.outer(2), 1);
        Check.row("outer(2)", x, 4);
        Check.due("outer(3)", x.outer(3), -1);
        Check.due("outer(-1)", x.outer(-1), -1);
        Check.row("the ROW stays", x, 4);
    }

    private static void outerOfSides() {
        DoorWalk x = sides();
        Check.due("outer(0)", x.outer(0), 3);
        Check.row("by j: UP (0, 0), (0, 1), (0, 2)", x, 0, 2, 4);
        Check.due("outer(1)", x.outer(1), 3);
        Check.row("by i: UP (0, 0), (1, 0), (3, 0)", x, 0, 8, 24);
        Check.due("outer(2)", x.outer(2), 3);
        Check.row("by j: UP (3, 0), (2, 1), (1, 2)", x, 24, 18, 12);
        DoorWalk big = Check.exchange("111111");
        big.grid(16);
        // 1 and 2 in turn along side 0
        for (int j = 1; j < 16; j++) {
            big.lays(0, j, j % 2 == 0 ? 2 : 1);
        }
        Check.due("GRID 16", big.outer(0), 15);
        Check.due("numbers of the ROW", big.count(7), 15);
        Check.due("the last one", big.row(14), 2 * 14);
    }

    private static void doors() {
        DoorWalk x = three();
        Check.due("doors(0)", x.doors(0), 3);
        Check.row("doors(0)", x, 3, 1);
        Check.due("doors(1)", x.doors(1), 5);
        Check.row("doors(1)", x, 3, 3);
        Check.due("doors(2)", x.doors(2), 3);
        Check.row("doors(2)", x, 3, 1);
        Check.due("doors(3)", x.doors(3), -1);
        Check.due("doors(-1)", x.doors(-1), -1);
        Check.row("the ROW stays", x, 3, 1);
        DoorWalk one = Check.labels("01210");
        Check.due("GRID 1", one.doors(1), 1);
        Check.row("GRID 1", one, 1, 0);
    }

    private static void walk() {
        DoorWalk x = three();
        Check.due("walk(0, 0)", x.walk(0, 0), 1);
        Check.row("walk(0, 0)", x, 0, 1, -1);
        Check.due("walk(2, 0)", x.walk(2, 0), 2);
        Check.row("walk(2, 0)", x, 3, 1, -1);
        Check.due("walk(2, 1)", x.walk(2, 1), -1);
        Check.due("walk(2, -1)", x.walk(2, -1), -1);
        Check.due("walk(3, 0)", x.walk(3, 0), -1);
        Check.due("walk(-1, 0)", x.walk(-1, 0), -1);
        Check.row("the ROW stays", x, 3, 1, -1);
    }

    /**
     * GRID 3, along side 0 2 1 2 1, else 0 but (1, 1) 1: UP (0, 1) 2 1 1 has DOORS of kind 0 to both its sides at
     * (0, 1): from the second OUTER DOOR through 2 and 3, and back.
     */
    private static void walkOut() {
        DoorWalk x = Check.labels("03" + "2121" + "010" + "00" + "0");
        Check.due("outer(0)", x.outer(0), 3);
        Check.row("outer(0)", x, 0, 2, 4);
        // 0: 2 0 1 FULL; 2: (0, 1) 1, (1, 1) 1, (0, 2) 2; 3: (1, 2) 0, (0, 2) 2, (1, 1) 1 FULL; 4: (0, 2) 2, (1, 2) 0, (0, 3) 1 FULL
        Check.due("walk(0, 1)", x.walk(0, 1), 2);
        Check.row("walk(0, 1)", x, 3, 1, -1);
        Check.due("walk(0, 2)", x.walk(0, 2), 1);
        Check.row("walk(0, 2)", x, 4, 1, -1);
        // round a lone 2 at (0, 2) amid 1: in at one OUTER DOOR, out at the next
        x = Check.labels("03" + "2121" + "011" + "00" + "0");
        Check.due("walk(0, 1)", x.walk(0, 1), 3);
        Check.row("out at 2", x, 4, 0, 2);
        Check.due("walk(0, 2)", x.walk(0, 2), 3);
        Check.row("out at 1", x, 2, 0, 1);
        // the same on side 1: a lone 2 at (2, 0) amid 0
        x = Check.labels("03" + "2111" + "000" + "20" + "0");
        Check.due("walk(1, 1)", x.walk(1, 1), 3);
        Check.row("out at 2", x, 12, 0, 2);
        Check.due("walk(1, 2)", x.walk(1, 2), 3);
        Check.row("out at 1", x, 6, 0, 1);
        // and on side 2: a lone 1 at (2, 1) amid 0
        x = Check.labels("03" + "2111" + "000" + "01" + "0");
        Check.due("walk(2, 0)", x.walk(2, 0), 3);
        Check.row("out at 1", x, 8, 0, 1);
        Check.due("walk(2, 1)", x.walk(2, 1), 3);
        Check.row("out at 0", x, 12, 0, 0);
    }

    private static void step() {
        DoorWalk x = new DoorWalk();
        // along the 1 of side 0, of which side 2 has one
        int[] way = {6, 5, 4, 3, 2, 1, 0};
        for (int n = 0; n < way.length; n++) {
            Check.due("step(2, 0, " + n + ")", x.step(2, 0, n), way[n]);
        }
        Check.none("step(2, 0, 7)", () -> x.step(2, 0, 7));
        Check.none("step(2, 0, -1)", () -> x.step(2, 0, -1));
        Check.none("step(2, 1, 0)", () -> x.step(2, 1, 0));
        Check.none("step(2, -1, 0)", () -> x.step(2, -1, 0));
        Check.none("step(3, 0, 0)", () -> x.step(3, 0, 0));
        Check.none("step(-1, 0, 0)", () -> x.step(-1, 0, 0));
        Check.none("step(2, 0, max)", () -> x.step(2, 0, Integer.MAX_VALUE));
        Check.row("step() tells no ROW", x);
    }

    private static void from() {
        DoorWalk x = three();
        Check.due("from(1, 0)", x.from(1, 0), 2);
        Check.row("from(1, 0)", x, 3, -1);
        Check.due("from(3, 0)", x.from(3, 0), 2);
        Check.row("from(3, 0)", x, 1, -1);
        Check.due("from(1, 1)", x.from(1, 1), 4);
        Check.row("from(1, 1)", x, 3, -1);
        Check.due("from(0, 2)", x.from(0, 2), 1);
        Check.row("from(0, 2)", x, 1, -1);
        Check.due("from(3, 2)", x.from(3, 2), 1);
        Check.row("out at 0", x, 4, 0);
        Check.due("from(0, 1): its DOOR is an OUTER one", x.from(0, 1), 0);
        Check.row("itself", x, 0, 0);
        Check.due("from(2, 0)", x.from(2, 0), -2);
        Check.due("from(5, 0)", x.from(5, 0), -1);
        Check.due("from(-1, 0)", x.from(-1, 0), -1);
        Check.due("from(18, 0)", x.from(18, 0), -1);
        Check.due("from(0, 3)", x.from(0, 3), -1);
        Check.due("from(0, -1)", x.from(0, -1), -1);
        Check.due("from(2, 3): NONE comes first", x.from(2, 3), -1);
        Check.row("the ROW stays", x, 0, 0);
        x = Check.labels("03" + "2121" + "010" + "00" + "0");
        Check.due("from(4, 0)", x.from(4, 0), 0);
        Check.row("OUTER DOOR 2", x, 4, 2);
        Check.due("from(3, 0)", x.from(3, 0), 1);
        Check.row("OUTER DOOR 1", x, 2, 1);
    }

    private static void hidden() {
        DoorWalk x = three();
        Check.due("hidden(0)", x.hidden(0), 2);
        Check.row("hidden(0)", x, 1);
        Check.due("hidden(1)", x.hidden(1), 2);
        Check.row("hidden(1)", x, 1);
        Check.due("hidden(2)", x.hidden(2), 2);
        Check.row("hidden(2)", x, 0);
        Check.due("hidden(3)", x.hidden(3), -1);
        Check.due("hidden(-1)", x.hidden(-1), -1);
        Check.row("the ROW stays", x, 0);
        x = ring();
        Check.due("none: hidden(0)", x.hidden(0), 0);
        Check.row("none", x, -1);
    }

    private static void longest() {
        DoorWalk x = three();
        Check.due("longest(0)", x.longest(0), 0);
        Check.row("longest(0)", x, 1, 8);
        Check.due("longest(2)", x.longest(2), 0);
        Check.row("longest(2)", x, 2, 7);
        Check.due("longest(3)", x.longest(3), -1);
        Check.due("longest(-1)", x.longest(-1), -1);
        Check.row("the ROW stays", x, 2, 7);
        x = Check.labels("03" + "2121" + "010" + "00" + "0");
        // 0; 2 3; 4
        Check.due("the second", x.longest(0), 1);
        Check.row("the second", x, 2, 5);
        x = Check.labels("03" + "2121" + "011" + "00" + "0");
        // two WALKS of three CELLS go through the same ones: of equal ones the first, each CELL once
        Check.due("of equal ones the first", x.longest(0), 1);
        Check.row("each CELL once", x, 3, 9 - 1 - 3);
    }

    private static void crossed() {
        DoorWalk x = three();
        Check.due("WALKS of kind 0, 1 come to 0, of kind 2 to 3", x.crossed(), 0);
        Check.row("none", x, 0);
        x = new DoorWalk();
        Check.due("all come to 0", x.crossed(), 1);
        Check.row("it is FULL", x, 1);
        x.lays(1, 1, 2);
        Check.due("no more", x.crossed(), 0);
        Check.row("no more", x, 0);
    }

    private static void leads() {
        DoorWalk x = three();
        Check.due("leads(1, 3, 0)", x.leads(1, 3, 0), 3);
        Check.due("leads(3, 1, 0)", x.leads(3, 1, 0), 3);
        Check.due("leads(1, 3, 1)", x.leads(1, 3, 1), 5);
        Check.due("leads(2, 3, 0)", x.leads(2, 3, 0), 2);
        Check.due("leads(2, 1, 0)", x.leads(2, 1, 0), 2);
        Check.due("leads(0, 3, 0)", x.leads(0, 3, 0), -2);
        Check.due("leads(0, 1, 0)", x.leads(0, 1, 0), -2);
        Check.due("leads(12, 0, 0): it has no DOOR", x.leads(12, 0, 0), -2);
        Check.due("leads(0, 12, 0)", x.leads(0, 12, 0), -2);
        Check.due("leads(12, 12, 0): they are one", x.leads(12, 12, 0), 1);
        Check.due("leads(4, 0, 2): no way on outside", x.leads(4, 0, 2), -2);
        Check.due("leads(0, 2, 1): no way on outside", x.leads(0, 2, 1), -2);
        Check.due("leads(5, 0, 0)", x.leads(5, 0, 0), -1);
        Check.due("leads(0, 5, 0)", x.leads(0, 5, 0), -1);
        Check.due("leads(5, 5, 0)", x.leads(5, 5, 0), -1);
        Check.due("leads(-1, 0, 0)", x.leads(-1, 0, 0), -1);
        Check.due("leads(0, 18, 0)", x.leads(0, 18, 0), -1);
        Check.due("leads(0, 0, 3)", x.leads(0, 0, 3), -1);
        Check.due("leads(0, 0, -1)", x.leads(0, 0, -1), -1);
        Check.row("leads() tells no ROW", x);
    }

    /** The fewest CELLS, whichever way round. */
    private static void leadsRound() {
        DoorWalk x = ring();
        int[] round = {1, 2, 3, 10, 9, 8};
        for (int a = 0; a < 6; a++) {
            for (int b = 0; b < 6; b++) {
                int apart = Math.abs(a - b);
                Check.due("leads(" + round[a] + ", " + round[b] + ", 1)", x.leads(round[a], round[b], 1), 1 + Math.min(apart, 6 - apart));
            }
            Check.due("out of the ring", x.leads(round[a], 24, 1), -2);
            Check.due("through other DOORS", x.leads(round[a], round[(a + 1) % 6], 0), -2);
        }
    }
}
