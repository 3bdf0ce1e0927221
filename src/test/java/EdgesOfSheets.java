/** Boundary cases of promise 7: sheet. */
final class EdgesOfSheets {
    private static final int BYTES = 0;
    private static final int SHORTS = 1;
    private static final int INTS = 2;
    private static final int MISSING = 3;
    /** The number of (1, 1) of GRID 3, which can have each LABEL; it has 1. */
    private static final int WITHIN = 5;

    private EdgesOfSheets() {
    }

    static void run() {
        belowNone();
        missing();
        noSuchKind();
        noSuchPoint();
        noSuchLabel();
        firstSuch();
        bits();
        roundAbout();
        done();
        ofNoEntries();
        notInAll();
        nothingToUndo();
        ofAllPoints();
    }

    private static void belowNone() {
        Edge e = Edge.of(7, "-2: n below 0;");
        for (int kind = BYTES; kind <= INTS; kind++) {
            int kindNow = kind;
            for (int n : new int[] {-1, -160, -161, Integer.MIN_VALUE}) {
                e.stays("kind " + kind + ", n " + n, Twins::byExchange, x -> x.sheet(0, kindNow, n, 2, 0), -2);
                e.stays("kind " + kind + ", n " + n + ", no such POINT", Twins::byMap, x -> x.sheet(-1, kindNow, n, 9, 0), -2);
            }
            DoorWalk x = Twins.byExchange();
            e.is("n 0", x.sheet(0, kind, 0, 2, 0), 0);
            e.is("n 0: done in all, RULE 0", x.count(3), 0);
            e.labels("n 0", x, "2211201000");
            e.row("n 0", x, 1, 2, 0);
            e.is("n 0, no such POINT, no such LABEL", x.sheet(-1, kind, 0, 9, 9), 0);
            e.is("n 1", x.sheet(0, kind, 1, 2, 0), 0);
        }
    }

    private static void missing() {
        Edge e = Edge.of(7, "-3: missing (whatever n is);");
        for (int n : new int[] {-1, 0, 1, 160, Integer.MIN_VALUE}) {
            e.stays("n " + n, Twins::byExchange, x -> x.sheet(0, MISSING, n, 2, 0), -3);
            e.stays("n " + n + ", no such POINT", Twins::byMap, x -> x.sheet(10, MISSING, n, 9, 0), -3);
        }
        e.is("another kind", Twins.byExchange().sheet(0, INTS, 1, 2, 0), 0);
    }

    private static void noSuchKind() {
        Edge e = Edge.of(7, "NONE: another kind, n above 160 (these first).");
        for (int kind : new int[] {-1, 4, 5, Integer.MAX_VALUE, Integer.MIN_VALUE}) {
            for (int n : new int[] {-1, 0, 1, 160, 161}) {
                e.stays("kind " + kind + ", n " + n, Twins::byExchange, x -> x.sheet(0, kind, n, 2, 0), -1);
            }
        }
        for (int kind = BYTES; kind <= MISSING; kind++) {
            int kindNow = kind;
            for (int n : new int[] {161, 162, Integer.MAX_VALUE}) {
                e.stays("kind " + kind + ", n " + n, Twins::byMap, x -> x.sheet(0, kindNow, n, 2, 0), -1);
                e.stays("kind " + kind + ", n " + n + ", no such POINT", Twins::byMap, x -> x.sheet(-1, kindNow, n, 9, 0), -1);
            }
        }
        for (int kind = BYTES; kind <= INTS; kind++) {
            int kindNow = kind;
            e.tells("kind " + kind + ", n 160", Twins::byMap, x -> x.sheet(9, kindNow, 160, 0, 0), -4, 1, 1);
        }
        e.stays("kind 3, n 160", Twins::byMap, x -> x.sheet(9, MISSING, 160, 0, 0), -3);
    }

    private static void noSuchPoint() {
        Edge e = Edge.of(7, "-4: an entry can't be (the ROW: which entry; 1 there is no such POINT,");
        for (int k : new int[] {-1, -2, -160, 10, 11, Integer.MAX_VALUE, Integer.MIN_VALUE}) {
            e.tells("from " + k, Twins::byExchange, x -> x.sheet(k, INTS, 1, 0, 0), -4, 0, 1);
            e.tells("160 from " + k, Twins::byExchange, x -> x.sheet(k, BYTES, 160, 0, 0), -4, 0, 1);
        }
        e.is("from 0", Twins.byExchange().sheet(0, INTS, 1, 2, 0), 0);
        e.is("from 9", Twins.byExchange().sheet(9, INTS, 1, 0, 0), 0);
        e.tells("two from 9", Twins::byExchange, x -> x.sheet(9, INTS, 2, 0, 0), -4, 1, 1);
        e.is("two from 8", Twins.byExchange().sheet(8, INTS, 2, 0, 0), 0);
        // (1, 2) is 1: it would become 0, were there a POINT for each
        e.tells("nothing changes but if it is done in all", Twins::byExchange, x -> x.sheet(6, SHORTS, 5, 0, 0), -4, 4, 1);
        DoorWalk x = Twins.byExchange();
        e.is("four from 6", x.sheet(6, SHORTS, 4, 0, 0), 1);
        e.labels("four from 6", x, "2211200000");
    }

    private static void noSuchLabel() {
        Edge e = Edge.of(7, "2 it is no LABEL that it can have;");
        for (int kind = BYTES; kind <= INTS; kind++) {
            int kindNow = kind;
            for (int v : new int[] {3, -1, 100, -100}) {
                e.tells("kind " + kind + ", LABEL " + v, Twins::byExchange, x -> x.sheet(WITHIN, kindNow, 1, v, 0), -4, 0, 2);
            }
            for (int v = 0; v < 3; v++) {
                DoorWalk x = Twins.byExchange();
                e.is("kind " + kind + ", LABEL " + v, x.sheet(WITHIN, kind, 1, v, 0), v == 0 ? 0 : 1);
                e.is("LABEL " + v, x.label(1, 1), v);
            }
        }
        // by numbers: 2, 12, 12, 1, 02, 012, 01, 02, 01, 0
        String[] can = {"2", "12", "12", "1", "02", "012", "01", "02", "01", "0"};
        for (int p = 0; p < can.length; p++) {
            for (int v = 0; v < 3; v++) {
                int number = p;
                int entry = v;
                if (can[p].contains("" + v)) {
                    e.is(v + " at POINT " + p, Twins.byHand().sheet(p, INTS, 1, v, 0) >= 0, true);
                } else {
                    e.tells(v + " at POINT " + p, Twins::byHand, x -> x.sheet(number, INTS, 1, entry, 0), -4, 0, 2);
                }
            }
        }
    }

    private static void firstSuch() {
        Edge e = Edge.of(7, "the first such one; of one the first of these)");
        // (2, 1) can have 0, (3, 0) no 1, and no POINT is behind it
        e.tells("0 1 2 from 8", Twins::byHand, x -> x.sheet(8, INTS, 3, 0, 1), -4, 1, 2);
        e.tells("0 0 0 from 8", Twins::byHand, x -> x.sheet(8, INTS, 3, 0, 0), -4, 2, 1);
        e.tells("2 1 from 8", Twins::byHand, x -> x.sheet(8, INTS, 2, 2, -1), -4, 0, 2);
        e.tells("no such POINT, and no such LABEL", Twins::byHand, x -> x.sheet(10, INTS, 1, 3, 0), -4, 0, 1);
        e.tells("no such POINT, and no such LABEL", Twins::byHand, x -> x.sheet(-1, INTS, 2, -7, 0), -4, 0, 1);
        e.tells("no such LABEL, at the last POINT", Twins::byHand, x -> x.sheet(9, INTS, 2, 3, 0), -4, 0, 2);
        e.is("0 0 from 8", Twins.byHand().sheet(8, INTS, 2, 0, 0), 0);
    }

    private static void entry(Edge e, int kind, int f, int due) {
        String what = "kind " + kind + ", " + f;
        if (due < 0) {
            e.tells(what, Twins::byHand, x -> x.sheet(WITHIN, kind, 1, f, 0), -4, 0, 2);
            return;
        }
        DoorWalk x = Twins.byHand();
        e.is(what, x.sheet(WITHIN, kind, 1, f, 0), due == 1 ? 0 : 1);
        e.is(what, x.label(1, 1), due);
    }

    private static void bits() {
        Edge e = Edge.of(7, "of bytes, shorts the lowest bits, with their sign)");
        int[] bytes = {256, 257, 258, 512, -256, -255, -254, 65536, 65537, Integer.MIN_VALUE, Integer.MIN_VALUE + 2};
        int[] ofBytes = {0, 1, 2, 0, 0, 1, 2, 0, 1, 0, 2};
        for (int k = 0; k < bytes.length; k++) {
            entry(e, BYTES, bytes[k], ofBytes[k]);
        }
        int[] shorts = {65536, 65537, 65538, 131072, -65536, -65535, -65534, Integer.MIN_VALUE, Integer.MIN_VALUE + 1};
        int[] ofShorts = {0, 1, 2, 0, 0, 1, 2, 0, 1};
        for (int k = 0; k < shorts.length; k++) {
            entry(e, SHORTS, shorts[k], ofShorts[k]);
        }
        for (int f : new int[] {255, 254, 259, 127, 128, -1, -128, Integer.MAX_VALUE}) {
            entry(e, BYTES, f, -1);
        }
        for (int f : new int[] {255, 256, 257, 258, 32767, 32768, 65535, 65539, -1, -256, Integer.MAX_VALUE}) {
            entry(e, SHORTS, f, -1);
        }
        for (int f : new int[] {256, 257, 65536, 65537, -65536, Integer.MIN_VALUE, Integer.MAX_VALUE}) {
            entry(e, INTS, f, -1);
        }
    }

    private static void roundAbout() {
        Edge e = Edge.of(7, "of n entries f, f + step, .. (as ints;");
        // the second entry goes round from above to below: its lowest bits are 1 again
        DoorWalk x = Twins.byHand();
        e.is("bytes, from above to below", x.sheet(WITHIN, BYTES, 2, 0x7fffff01, 0x100), 0);
        e.is("shorts, from above to below", x.sheet(WITHIN, SHORTS, 2, 0x7fff0001, 0x10000), 0);
        e.is("bytes, from below to above", x.sheet(WITHIN, BYTES, 2, 0x80000001, -0x100), 0);
        e.labels("1 1", x, "2211211000");
        e.is("bytes, half of all about", x.sheet(WITHIN, BYTES, 2, 0, Integer.MIN_VALUE), 2);
        e.labels("0 0", x, "2211200000");
        e.tells("ints, half of all about", Twins::byHand, t -> t.sheet(WITHIN, INTS, 2, 0, Integer.MIN_VALUE), -4, 1, 2);
        e.tells("ints: 2, then the least", Twins::byHand, t -> t.sheet(WITHIN, INTS, 2, 2, Integer.MAX_VALUE - 1), -4, 1, 2);
        x = Twins.byHand();
        e.is("2 1 0 from 5", x.sheet(WITHIN, INTS, 3, 2, -1), 1);
        e.labels("2 1 0 from 5", x, "2211221000");
        e.tells("0 1 2 from 5: (2, 0) has it, one more can't", Twins::byHand, t -> t.sheet(WITHIN, INTS, 4, 0, 1), -4, 3, 2);
        e.is("0 1 2 from 5", x.sheet(WITHIN, INTS, 3, 0, 1), 2);
        e.labels("0 1 2 from 5", x, "2211201200");
    }

    private static void done() {
        Edge e = Edge.of(7, "LABELS of POINTS from number k on become as a sheet tells, entry by entry (RULE 0 then)");
        for (Edge.Made made : new Edge.Made[] {Twins::byHand, Twins::byExchange, Twins::byMap}) {
            DoorWalk x = made.make();
            e.is("of one", x.sheet(0, INTS, 1, 2, 0), 0);
            e.is("RULE 0 then", x.count(3), 0);
            e.is("TRADERS", x.count(4), 0);
            e.row("the ROW stays", x, 1, 2, 0);
            e.is("THE TEXT stays", x.count(8), 9);
        }
        Edge others = Edge.of(7, "how many are another then.");
        DoorWalk x = Twins.byHand();
        others.is("as they are", x.sheet(1, INTS, 2, 2, -1), 0);
        others.is("one is so, one is not", x.sheet(1, INTS, 2, 2, 0), 1);
        others.is("none is so", x.sheet(1, INTS, 2, 1, 0), 2);
    }

    private static void ofNoEntries() {
        Edge e = Edge.of(7, "entry by entry (RULE 0 then)");
        for (Edge.Made made : new Edge.Made[] {Twins::byExchange, Twins::byMap}) {
            DoorWalk x = made.make();
            String before = Check.told(x);
            int undone = x.count(6);
            e.is("0 entries from 4", x.sheet(4, INTS, 0, 1, 0), 0);
            e.is("0 entries: RULE", x.count(3), 0);
            e.is("0 entries: finer()", x.finer(5), -3);
            e.labels("0 entries", x, before);
            e.is("0 entries: what can be undone", x.count(6), undone);
        }
    }

    private static void notInAll() {
        Edge e = Edge.of(7, "nothing changes but if it is done in all.");
        // all of (1, 1), (1, 2), (2, 0), (2, 1), (3, 0) can have 0; (2, 1) is the fourth of them
        for (Edge.Made made : new Edge.Made[] {Twins::byHand, Twins::byExchange, Twins::byMap}) {
            e.tells("one POINT too few", made, x -> x.sheet(WITHIN, BYTES, 6, 0, 0), -4, 5, 1);
            e.tells("one LABEL that can't be", made, x -> x.sheet(WITHIN, INTS, 5, 2, -1), -4, 3, 2);
            DoorWalk x = made.make();
            e.is("done in all", x.sheet(WITHIN, BYTES, 5, 0, 0) >= 0, true);
            e.labels("done in all", x, Check.told(made.make()).substring(0, WITHIN) + "00000");
            e.is("done in all: RULE", x.count(3), 0);
        }
    }

    private static void nothingToUndo() {
        Edge e = Edge.of(7, "Nothing is kept of it that could be undone,");
        DoorWalk x = new DoorWalk();
        e.is("sheet()", x.sheet(6, INTS, 1, 1, 0), 1);
        e.is("nothing", x.count(6), 0);
        e.is("undo()", x.undo(), -1);
        e.is("it stays", x.label(1, 1), 1);
        x.lays(1, 2, 2);
        x.sheet(6, INTS, 1, 2, 0);
        e.is("the one ahead of it", x.count(6), 1);
        e.is("undo()", x.undo(), 0);
        e.labels("as ahead of lays()", x, "21111" + "0100" + "000" + "00" + "0");
    }

    private static void ofAllPoints() {
        Edge e = Edge.of(7, "LABELS of POINTS from number k on become as a sheet tells");
        DoorWalk x = Check.exchange("111111");
        x.grid(16);
        // all POINTS of i above 0 can have 0: 136 from (1, 0), number 17, on
        e.is("one POINT too many", x.sheet(17, INTS, 137, 0, 0), -4);
        e.row("one POINT too many", x, 136, 1);
        e.is("RULE stays", x.count(3), 1);
        int others = x.many(1) + x.many(2) - 17;
        e.is("136 from 17", x.sheet(17, INTS, 136, 0, 0), others);
        e.is("all 0", x.many(0), 136);
        e.is("so they are", x.sheet(17, BYTES, 136, 256, 256), 0);
        e.is("(0, 16) has no 0", x.sheet(16, INTS, 137, 0, 0), -4);
        e.row("(0, 16) has no 0", x, 0, 2);
        e.is("the last of all", x.sheet(152, INTS, 1, 0, 0), 0);
        e.is("behind the last", x.sheet(153, INTS, 1, 0, 0), -4);
        e.row("behind the last", x, 0, 1);
    }
}
