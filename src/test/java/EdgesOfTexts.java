/** Boundary cases of promises 1 to 6: a new object, sign, end, labels, exchange, map. */
final class EdgesOfTexts {
    /** What each POINT of GRID 2 can have, by numbers. */
    private static final String[] CAN = {"2", "12", "1", "02", "01", "0"};

    private EdgesOfTexts() {
    }

    static void run() {
        newObject();
        signRefused();
        signOrder();
        end();
        labelsOfGrids();
        labelsOfPoints();
        labelsEnd();
        labelsDone();
        exchangeTraders();
        exchangeDigits();
        exchangeEnd();
        mapSigns();
        mapSums();
    }

    private static void newObject() {
        Edge e = Edge.of(1, "GRID 4, LABELS as at first.");
        DoorWalk x = new DoorWalk();
        int[] counts = {4, 15, 16, 0, 0, 1, 0, 0, 0};
        for (int k = 0; k < counts.length; k++) {
            e.is("count(" + k + ")", x.count(k), counts[k]);
        }
        e.labels("LABELS", x, "21111" + "0000" + "000" + "00" + "0");
        e.row("the ROW is empty", x);
        e.is("nothing can be undone", x.undo(), -1);
        e.is("nothing is kept under 0", x.again(0), false);
        e.is("nothing is kept under 1", x.again(1), false);
        e.is("THE TEXT is empty", x.end(1), false);
    }

    /** So many ACTS of four signs, each of which can be done with the EXCHANGE 111111. */
    private static String acts(int many) {
        return "a019a011".repeat(many / 2) + (many % 2 == 0 ? "" : "a019");
    }

    private static DoorWalk withText(String signs) {
        DoorWalk x = Check.exchange("111111");
        x.point(1, 2);
        Check.text(x, signs);
        return x;
    }

    private static void signRefused() {
        Edge e = Edge.of(2, "Refused: there would be more than 80.");
        // DAYS of 77, 78, 79, 80 signs: that all their ACTS are done shows that THE TEXT is as it was
        String[] days = {acts(17) + "s01000200", acts(18) + "l01010", acts(19) + "g03", acts(20)};
        int[] done = {18, 19, 20, 20};
        for (int k = 0; k < days.length; k++) {
            String day = days[k];
            e.is("signs", day.length(), 77 + k);
            for (int v : new int[] {0, 0x61303139, -1}) {
                e.stays("sign(" + v + ") behind " + day.length(), () -> withText(day), x -> x.sign(v), -1);
            }
            DoorWalk x = withText(day);
            e.is("sign() behind " + day.length(), x.sign(0x61303139), -1);
            e.is("THE TEXT stays", x.day(), done[k]);
        }
        DoorWalk x = withText(acts(19));
        e.is("the 80th sign", x.sign(0x61303139), 80);
        e.is("81 to 84", x.sign(0x61303139), -1);
        e.is("all 20 ACTS are there; the last one can't be", x.day(), 19);
        x = withText(acts(19));
        e.is("the 80th sign", x.sign(0x61303131), 80);
        e.is("all 20 ACTS are there", x.day(), 20);
        e.is("from nothing again", x.sign(0x61303139), 4);
    }

    private static void signOrder() {
        Edge e = Edge.of(2, "Four signs come behind THE TEXT, of v the highest byte first: how many it has.");
        DoorWalk x = new DoorWalk();
        e.is("of nothing", x.sign(0x30313231), 4);
        e.is("behind four", x.sign(0x30010203), 8);
        e.is("behind eight", x.sign(0), 12);
        x.end(5);
        e.is("01210", x.labels(), 3);
        // a sign with its highest bit is a sign of 128 to 255, no digit
        x.sign(0x30b1b2b3);
        e.is("sign 177 at 1", x.labels(), -2);
        x.sign(0xb0313231);
        e.is("sign 176 at 0", x.labels(), -1);
        x.sign(0x30310031);
        e.is("sign 0 at 2", x.labels(), -3);
        x.sign(0x3031ff31);
        e.is("sign 255 at 2", x.labels(), -3);
    }

    private static void end() {
        Edge e = Edge.of(3, "false if it has not so many, or n is below 0.");
        for (int n : new int[] {10, 11, 80, 81, Integer.MAX_VALUE, -1, -2, Integer.MIN_VALUE}) {
            e.stays("end(" + n + ") of 9", Twins::byHand, x -> x.end(n) ? 1 : 0, 0);
        }
        e.stays("end(9) of 9", Twins::byHand, x -> x.end(9) ? 1 : 0, 1);
        DoorWalk x = new DoorWalk();
        e.is("end(0) of nothing", x.end(0), true);
        e.is("end(1) of nothing", x.end(1), false);
        e.is("end(-1) of nothing", x.end(-1), false);
        Edge first = Edge.of(3, "THE TEXT has its first n signs alone: true");
        for (int n = 0; n < 9; n++) {
            x = Twins.byHand();
            first.is("end(" + n + ") of 9", x.end(n), true);
            first.is("signs", x.count(8), n);
            first.is("a MAP that ends at " + n, x.map(), -1 - n);
        }
        x = Twins.byHand();
        x.end(4);
        first.is("end(5) of 4", x.end(5), false);
        Check.text(x, "10001");
        first.is("its first 4 alone, and 5 behind them", x.map(), 1);
        Check.text(x, "0121099999");
        x.end(5);
        first.is("its first 5, not its last", x.labels(), 3);
    }

    /** LABELS as at first of GRID n, behind two digits. */
    private static String firsts(int n) {
        StringBuilder s = new StringBuilder(n < 10 ? "0" + n : "" + n);
        for (int i = 0; i <= n; i++) {
            for (int j = 0; j <= n - i; j++) {
                s.append(i > 0 ? '0' : j > 0 ? '1' : '2');
            }
        }
        return s.toString();
    }

    private static void labelsOfGrids() {
        Edge e = Edge.of(4, "two digits (N, 1 .. 10)");
        for (int n = 1; n <= 10; n++) {
            DoorWalk x = Check.labels(firsts(n));
            e.is("N " + n, x.count(0), n);
            e.labels("N " + n, x, firsts(n).substring(2));
        }
        Edge other = Edge.of(4, "-1 - p: the sign at p can't stand there (the second digit of another N;");
        for (String two : new String[] {"00", "11", "12", "16", "19", "20", "21", "99"}) {
            other.refusesText(Twins::byExchange, two + "210", DoorWalk::labels, -2);
        }
        other.refusesText(Twins::byExchange, "00", DoorWalk::labels, -2);
        other.refusesText(Twins::byExchange, firsts(11), DoorWalk::labels, -2);
        for (String first : new String[] {"/1210", ":1210", " 01210", "x", "-1210"}) {
            other.refusesText(Twins::byHand, first, DoorWalk::labels, -1);
        }
        for (String second : new String[] {"0/210", "0:210", "0 210", "1;", "1-"}) {
            other.refusesText(Twins::byHand, second, DoorWalk::labels, -2);
        }
    }

    private static void labelsOfPoints() {
        Edge e = Edge.of(4, "a LABEL that the POINT can't have;");
        String base = "02" + "211" + "00" + "0";
        for (int p = 0; p < CAN.length; p++) {
            for (char v = '/'; v <= ':'; v++) {
                StringBuilder s = new StringBuilder(base);
                s.setCharAt(2 + p, v);
                if (CAN[p].indexOf(v) >= 0) {
                    DoorWalk x = Check.labels(s.toString());
                    e.labels(v + " at POINT " + p, x, s.substring(2));
                } else {
                    e.refusesText(Twins::byMap, s.toString(), DoorWalk::labels, -1 - (2 + p));
                }
            }
        }
        // (1, 1) of GRID 3 can have all three, no 3
        for (char v = '0'; v <= '2'; v++) {
            e.labels(v + " within", Check.labels("03" + "2111" + "0" + v + "0" + "00" + "0"), "21110" + v + "0000");
        }
        e.refusesText(Twins::byMap, "03" + "2111" + "030" + "00" + "0", DoorWalk::labels, -8);
        // the first of two is told
        e.refusesText(Twins::byMap, "02" + "201" + "10" + "0", DoorWalk::labels, -4);
    }

    private static void labelsEnd() {
        Edge e = Edge.of(4, "its end, if it ends too early)");
        String two = firsts(2);
        for (int n = 0; n < two.length(); n++) {
            e.refusesText(Twins::byExchange, two.substring(0, n), DoorWalk::labels, -1 - n);
        }
        e.is("in all", Check.labels(two).count(1), 6);
        String ten = firsts(10);
        e.is("the longest", Check.labels(ten).count(1), 66);
        e.refusesText(Twins::byExchange, ten.substring(0, 67), DoorWalk::labels, -68);
        Edge more = Edge.of(4, "-1 - p: the sign at p can't stand there");
        for (String behind : new String[] {"0", "2", ";", " ", "00000"}) {
            more.refusesText(Twins::byExchange, two + behind, DoorWalk::labels, -1 - 8);
        }
        more.refusesText(Twins::byExchange, ten + "0", DoorWalk::labels, -69);
        more.refusesText(Twins::byExchange, ten + "000000000000", DoorWalk::labels, -69);
    }

    private static void labelsDone() {
        Edge e = Edge.of(4, "THE TEXT is LABELS (RULE 0 then)");
        for (Edge.Made made : new Edge.Made[] {Twins::byHand, Twins::byExchange, Twins::byMap}) {
            DoorWalk x = made.make();
            int undone = x.count(6);
            x.end(0);
            Check.text(x, "01210");
            e.is("labels()", x.labels(), 3);
            e.is("RULE", x.count(3), 0);
            e.is("TRADERS", x.count(4), 0);
            e.is("N", x.count(0), 1);
            e.is("signs", x.count(8), 0);
            e.is("one more can be undone", x.count(6), undone + 1);
            e.row("the ROW stays", x, 1, 2, 0);
            // those that are so already are told all the same
            Check.text(x, "01210");
            e.is("once more", x.labels(), 3);
            e.is("one more can be undone", x.count(6), undone + 2);
        }
    }

    private static void exchangeTraders() {
        Edge e = Edge.of(5, "of each TRADER three digits (AMOUNTS), three digits 1 .. 9 (WISHES), with ; between: how many TRADERS.");
        String s = "111111";
        for (int many = 1; many <= 4; many++) {
            DoorWalk x = Check.exchange(s);
            e.is("TRADERS", x.count(4), many);
            e.is("the last one is there", x.amounts(many - 1, 0, 1), -2);
            e.is("no other one is", x.amounts(many, 0, 1), -1);
            s += ";111111";
        }
        Edge fifth = Edge.of(5, "(the ; of a fifth;");
        String four = "111111;111111;111111;111111";
        fifth.is("four", Check.exchange(four).count(4), 4);
        for (String behind : new String[] {";", ";1", ";111111", ";x", "x", "1", ";;"}) {
            fifth.refusesText(Twins::byMap, four + behind, DoorWalk::exchange, -28);
        }
        fifth.refusesText(Twins::byExchange, four + ";111111;111111", DoorWalk::exchange, -28);
        Edge between = Edge.of(5, "with ; between");
        for (String behind : new String[] {",111111", "1111111", " 111111", ":", "<"}) {
            between.refusesText(Twins::byExchange, "111111" + behind, DoorWalk::exchange, -7);
        }
        between.refusesText(Twins::byExchange, ";111111", DoorWalk::exchange, -1);
        between.refusesText(Twins::byExchange, "111;111", DoorWalk::exchange, -4);
        between.refusesText(Twins::byExchange, "111111;;111111", DoorWalk::exchange, -8);
    }

    private static void exchangeDigits() {
        Edge e = Edge.of(5, "-1 - p: the sign at p can't stand there");
        for (int p = 0; p < 13; p++) {
            if (p == 6) {
                continue;
            }
            boolean wish = p % 7 >= 3;
            for (char v = '/'; v <= ':'; v++) {
                StringBuilder s = new StringBuilder("111111;111111");
                s.setCharAt(p, v);
                if (v >= (wish ? '1' : '0') && v <= '9') {
                    e.is(v + " at " + p, Check.exchange(s.toString()).count(4), 2);
                } else {
                    e.refusesText(Twins::byMap, s.toString(), DoorWalk::exchange, -1 - p);
                }
            }
        }
        DoorWalk x = Twins.byHand();
        x.end(0);
        Check.text(x, "111111");
        e.is("done", x.exchange(), 1);
        e.is("signs", x.count(8), 0);
        e.is("RULE", x.count(3), 1);
        e.is("GRID stays", x.count(0), 3);
        e.is("it can be undone", x.count(6), 4);
        e.row("the ROW stays", x, 1, 2, 0);
        e.labels("LABELS are by it then", x, "2211" + "201" + "00" + "0");
    }

    private static void exchangeEnd() {
        Edge e = Edge.of(5, "its end, if it ends too early)");
        String two = "111111;123456";
        for (int n = 0; n < two.length(); n++) {
            if (n != 6) {
                e.refusesText(Twins::byHand, two.substring(0, n), DoorWalk::exchange, -1 - n);
            }
        }
        e.is("one TRADER in all", Check.exchange(two.substring(0, 6)).count(4), 1);
        e.is("two in all", Check.exchange(two).count(4), 2);
        e.refusesText(Twins::byHand, "111111;111111;111111;11111", DoorWalk::exchange, -27);
        e.refusesText(Twins::byHand, "111111;111111;111111;", DoorWalk::exchange, -22);
    }

    private static void mapSigns() {
        Edge e = Edge.of(6, "-1 - p: the sign at p can't stand there (its end, if it ends too early)");
        for (int n = 0; n < 9; n++) {
            e.refusesText(Twins::byExchange, Twins.PENDING.substring(0, n), DoorWalk::map, -1 - n);
            for (char v : new char[] {'/', ':', 'x', (char) 0, (char) 255}) {
                StringBuilder s = new StringBuilder(Twins.PENDING);
                s.setCharAt(n, v);
                e.refusesText(Twins::byMap, s.toString(), DoorWalk::map, -1 - n);
            }
        }
        for (String behind : new String[] {"0", ";", "x", "100010001"}) {
            e.refusesText(Twins::byHand, Twins.PENDING + behind, DoorWalk::map, -10);
        }
        // a sign that can't stand there, whatever the sums are
        e.refusesText(Twins::byHand, "200010x01", DoorWalk::map, -7);
        e.refusesText(Twins::byHand, "20001000", DoorWalk::map, -9);
        e.refusesText(Twins::byHand, "2000100010", DoorWalk::map, -10);
        e.is("nine digits", Check.map(Twins.PENDING, 1).count(3), 2);
    }

    private static void mapSums() {
        Edge e = Edge.of(6, "-200: sums are unlike, or 0.");
        e.refusesText(Twins::byExchange, "000000000", DoorWalk::map, -200);
        for (int p = 0; p < 9; p++) {
            StringBuilder s = new StringBuilder("111111111");
            s.setCharAt(p, '2');
            e.refusesText(Twins::byMap, s.toString(), DoorWalk::map, -200);
            s = new StringBuilder("000000000");
            s.setCharAt(p, '1');
            e.refusesText(Twins::byHand, s.toString(), DoorWalk::map, -200);
        }
        e.is("sums 1", Check.map("111000000", 1).count(3), 2);
        e.is("sums 3", Check.map("111111111", 3).count(3), 2);
        e.is("sums 27", Check.map("999999999", 27).count(3), 2);
        e.refusesText(Twins::byHand, "999999998", DoorWalk::map, -200);
        DoorWalk x = Twins.byHand();
        e.is("done", x.map(), 1);
        e.is("signs", x.count(8), 0);
        e.is("RULE", x.count(3), 2);
        e.is("GRID stays", x.count(0), 3);
        e.is("it can be undone", x.count(6), 4);
        e.row("the ROW stays", x, 1, 2, 0);
        e.labels("LABELS are by it then", x, "2111" + "000" + "00" + "0");
    }
}
