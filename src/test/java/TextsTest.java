/** Promises 1 to 7: a new object, sign, end, labels, exchange, map, sheet. */
public final class TextsTest {
    private static final String FIRST = "211110000000000";

    private TextsTest() {
    }

    public static void main(String[] args) {
        newObject();
        sign();
        end();
        labels();
        labelsRefused();
        exchange();
        exchangeRefused();
        map();
        mapRefused();
        sheet();
        sheetEntries();
        sheetRefused();
        Check.finish();
    }

    private static void newObject() {
        DoorWalk x = new DoorWalk();
        Check.due("NONE", DoorWalk.NONE, -1);
        Check.due("GRID", x.count(0), 4);
        Check.due("RULE", x.count(3), 0);
        Check.due("what can be undone", x.count(6), 0);
        Check.due("signs", x.count(8), 0);
        Check.row("a new object", x);
        Check.told("a new object", x, FIRST);
        Check.due("nothing is kept", x.again(0), false);
    }

    private static void sign() {
        DoorWalk x = new DoorWalk();
        for (int k = 1; k <= 20; k++) {
            Check.due("sign " + k, x.sign(0x30303030), 4 * k);
        }
        Check.due("sign of 81 to 84", x.sign(0), -1);
        Check.due("signs stay", x.count(8), 80);
        Check.due("end(77)", x.end(77), true);
        Check.due("sign of 81", x.sign(0), -1);
        Check.due("signs stay 77", x.count(8), 77);
        Check.due("end(76)", x.end(76), true);
        Check.due("sign of 80", x.sign(0), 80);

        DoorWalk order = new DoorWalk();
        order.sign(0x30313231);
        order.sign(0x30ffffff);
        order.end(5);
        Check.due("the highest byte is first: 01210", order.labels(), 3);
        order.sign(0xff303030);
        Check.due("a sign of 255 is one sign, of its own", order.labels(), -1);
    }

    private static void end() {
        DoorWalk x = new DoorWalk();
        Check.due("end(0) of nothing", x.end(0), true);
        Check.due("end(1) of nothing", x.end(1), false);
        x.sign(0x30313231);
        Check.due("end(-1)", x.end(-1), false);
        Check.due("end(5)", x.end(5), false);
        Check.due("end of the least int", x.end(Integer.MIN_VALUE), false);
        Check.due("refused, it stays", x.count(8), 4);
        Check.due("end(4)", x.end(4), true);
        Check.due("all is there", x.count(8), 4);
        Check.due("end(3)", x.end(3), true);
        Check.due("its first 3", x.count(8), 3);
        x.sign(0x31303030);
        x.end(5);
        Check.due("012, and 10 put behind at once", x.labels(), 3);
    }

    private static void labels() {
        DoorWalk x = Check.labels("01210");
        Check.due("GRID", x.count(0), 1);
        Check.due("THE TEXT is read", x.count(8), 0);
        Check.due("it can be undone", x.count(6), 1);
        Check.row("labels() tells no ROW", x);
        Check.told("01210", x, "210");
        x = Check.labels("04222112020220000");
        Check.told("as told", x, "222112020220000");
        StringBuilder ten = new StringBuilder("10");
        for (int i = 0; i <= 10; i++) {
            for (int j = 0; j <= 10 - i; j++) {
                ten.append(i + j < 10 ? '2' : i > 0 ? '0' : '1');
            }
        }
        x = Check.labels(ten.toString());
        Check.due("GRID 10", x.count(0), 10);
        Check.due("66 POINTS", x.count(1), 66);
        x = Check.exchange("111111");
        Check.text(x, "01210");
        x.labels();
        Check.due("RULE 0 then", x.count(3), 0);
        Check.due("no TRADERS", x.count(4), 0);
    }

    private static void labelsRefused() {
        wrongLabels("", -1);
        wrongLabels("x1210", -1);
        wrongLabels("0", -2);
        wrongLabels("0x", -2);
        wrongLabels("1x", -2);
        wrongLabels("00", -2);
        wrongLabels("002", -2);
        wrongLabels("0012", -2);
        wrongLabels("11", -2);
        wrongLabels("25", -2);
        wrongLabels("01", -3);
        wrongLabels("0111", -3);
        wrongLabels("01310", -3);
        wrongLabels("01230", -4);
        wrongLabels("01220", -4);
        wrongLabels("01211", -5);
        wrongLabels("0121", -5);
        wrongLabels("012100", -6);
        wrongLabels("01210x", -6);
        wrongLabels("02211" + "11" + "0", -6);
        wrongLabels("02201" + "21" + "0", -4);
    }

    private static void wrongLabels(String signs, int due) {
        DoorWalk x = told();
        Check.text(x, signs);
        Check.due("labels() of " + signs, x.labels(), due);
        untouched("labels() of " + signs, x);
    }

    /** An object that has something of everything: a GRID, an EXCHANGE, a ROW, something to undo. */
    private static DoorWalk told() {
        DoorWalk x = Check.exchange("111111");
        x.grid(3);
        x.point(1, 2);
        return x;
    }

    private static void untouched(String what, DoorWalk x) {
        Check.due(what + ": THE TEXT", x.count(8), 0);
        Check.due(what + ": GRID", x.count(0), 3);
        Check.due(what + ": RULE", x.count(3), 1);
        Check.due(what + ": TRADERS", x.count(4), 1);
        Check.due(what + ": undo", x.count(6), 2);
        Check.row(what, x, 1, 2, 0);
        Check.told(what, x, "2211201000");
    }

    private static void exchange() {
        DoorWalk x = Check.exchange("111111");
        Check.due("RULE", x.count(3), 1);
        Check.due("TRADERS", x.count(4), 1);
        Check.due("THE TEXT", x.count(8), 0);
        Check.due("it can be undone", x.count(6), 1);
        Check.due("GRID stays", x.count(0), 4);
        Check.row("exchange() tells no ROW", x);
        // the EXCESS is least where the PRICE is greatest, of equal ones the first
        Check.told("111111", x, "22111" + "2211" + "000" + "00" + "0");
        x = Check.exchange("100111;010111;001111;999999");
        Check.due("TRADERS", x.count(4), 4);
        // AMOUNTS 1 2 3, WISHES 4 5 6: at PRICES 1 2 1 EXCESSES are 17, -20, 3
        x = Check.exchange("123456");
        Check.due("label(1, 2)", x.label(1, 2), 1);
        x.excess(1, 2);
        Check.row("123456", x, 17, -20, 3, 20);
        // all AMOUNTS 0: all EXCESSES 0, so LABELS are as at first
        x = Check.exchange("000123");
        Check.told("000123", x, FIRST);
        // a GOOD of PRICE 0 is no LABEL, even if its EXCESS is the least
        x = Check.exchange("000111;011191");
        Check.due("EXCESS 0 at (0, 2)", x.excess(0, 2), 0);
        Check.due("label(0, 2)", x.label(0, 2), 2);
    }

    private static void exchangeRefused() {
        wrongExchange("", -1);
        wrongExchange(";", -1);
        wrongExchange("11", -3);
        wrongExchange("1x1111", -2);
        wrongExchange("111", -4);
        wrongExchange("111011", -4);
        wrongExchange("111110", -6);
        wrongExchange("11111", -6);
        wrongExchange("11111:", -6);
        wrongExchange("111111,", -7);
        wrongExchange("1111111", -7);
        wrongExchange("111111;", -8);
        wrongExchange("111111;;", -8);
        wrongExchange("111111;111101", -12);
        wrongExchange("111111;111111;111111;111111;", -28);
        wrongExchange("111111;111111;111111;111111;111111", -28);
        wrongExchange("111111;111111;111111;111111x", -28);
    }

    private static void wrongExchange(String signs, int due) {
        DoorWalk x = told();
        Check.text(x, signs);
        Check.due("exchange() of " + signs, x.exchange(), due);
        untouched("exchange() of " + signs, x);
    }

    private static void map() {
        DoorWalk x = Check.map("100010001", 1);
        Check.due("RULE", x.count(3), 2);
        Check.due("TRADERS", x.count(4), 0);
        Check.due("THE TEXT", x.count(8), 0);
        Check.due("it can be undone", x.count(6), 1);
        Check.row("map() tells no ROW", x);
        Check.told("each PRICE stays as it is", x, FIRST);
        // M(0, 1), M(1, 2), M(2, 0): PRICE 1 comes to GOOD 0, PRICE 2 to GOOD 1, PRICE 0 to GOOD 2
        x = Check.map("010001100", 1);
        Check.told("turned", x, "22111" + "0011" + "000" + "00" + "0");
        x = Check.map("999999999", 27);
        // 9 times 4 at most 27 times a PRICE: PRICES of 2 and above
        Check.told("all alike", x, "22111" + "2211" + "000" + "00" + "0");
        // at PRICES 1 1 2: 11 is above 6, 5 is not; at 2 1 1: 13 is above 12, 6 is as much as 6; at 3 0 1: 18 is as much as 18;
        // at 2 0 2: 16 is above 12, GOOD 1 has no PRICE
        x = Check.map("503140023", 6);
        Check.due("label(1, 1)", x.label(1, 1), 1);
        Check.due("label(2, 1)", x.label(2, 1), 1);
        Check.due("label(3, 0)", x.label(3, 0), 0);
        Check.due("label(2, 0)", x.label(2, 0), 2);
    }

    private static void mapRefused() {
        wrongMap("", -1);
        wrongMap("x", -1);
        wrongMap("10001000", -9);
        wrongMap("10001000x", -9);
        wrongMap("1000:0001", -5);
        wrongMap("1000100010", -10);
        wrongMap("100010001x", -10);
        wrongMap("000000000", -200);
        wrongMap("100010002", -200);
        wrongMap("100020001", -200);
        wrongMap("200010001", -200);
        wrongMap("110110000", -200);
    }

    private static void wrongMap(String signs, int due) {
        DoorWalk x = told();
        Check.text(x, signs);
        Check.due("map() of " + signs, x.map(), due);
        untouched("map() of " + signs, x);
    }

    private static void sheet() {
        DoorWalk x = Check.exchange("111111");
        x.point(1, 2);
        Check.due("two that are so", x.sheet(0, 2, 2, 2, 0), 0);
        Check.due("RULE 0 then", x.count(3), 0);
        Check.due("nothing of it can be undone", x.count(6), 1);
        Check.row("the ROW stays", x, 1, 2, 1);
        Check.due("2 1 0 from (1, 0) on: one is so, one is another", x.sheet(5, 2, 3, 2, -1), 2);
        Check.told("from number 5 on", x, "22111" + "2101" + "000" + "00" + "0");
        Check.due("undo() goes back ahead of exchange()", x.undo(), 0);
        Check.told("undone", x, FIRST);
        Check.due("RULE", x.count(3), 0);
        x = Check.map("010001100", 1);
        Check.due("of no entries", x.sheet(99, 0, 0, 7, 7), 0);
        Check.due("it is done in all: RULE 0", x.count(3), 0);
        x = Check.exchange("111111");
        x.grid(16);
        Check.due("153 POINTS", x.sheet(1, 2, 16, 1, 0), 7);
        Check.due("the last one", x.sheet(152, 1, 1, 0, 5), 0);
    }

    private static void sheetEntries() {
        DoorWalk x = new DoorWalk();
        Check.due("of bytes the lowest bits", x.sheet(1, 0, 2, 258, 256), 2);
        Check.told("two 2", x, "222110000000000");
        Check.due("of shorts too", x.sheet(1, 1, 2, 65537, 65536), 2);
        Check.told("two 1", x, FIRST);
        Check.due("of ints all", x.sheet(1, 2, 1, 65537, 0), -4);
        Check.due("of shorts not the lowest byte alone", x.sheet(1, 1, 1, 257, 0), -4);
        Check.due("with its sign: 255 is -1 as a byte", x.sheet(1, 0, 2, 255, 2), -4);
        Check.row("entry 0", x, 0, 2);
        Check.due("steps go round as ints do", x.sheet(1, 2, 2, Integer.MIN_VALUE + 1, Integer.MIN_VALUE), -4);
        Check.row("entry 0", x, 0, 2);
        Check.due("1, then 1 again", x.sheet(1, 0, 3, 1, Integer.MIN_VALUE), 0);
        Check.due("2 0 of 5, 6", x.sheet(5, 2, 2, 2, -2), 1);
        Check.told("entry by entry", x, "21111" + "2000" + "000" + "00" + "0");
    }

    private static void sheetRefused() {
        DoorWalk x = Check.exchange("111111");
        x.point(1, 2);
        Check.due("kind -1", x.sheet(0, -1, 0, 0, 0), -1);
        Check.due("kind 4", x.sheet(0, 4, 0, 0, 0), -1);
        Check.due("kind 4 ahead of n below 0", x.sheet(0, 4, -1, 0, 0), -1);
        Check.due("n 161", x.sheet(0, 2, 161, 2, 0), -1);
        Check.due("n 161 comes first, missing or not", x.sheet(0, 3, 161, 2, 0), -1);
        Check.due("n -1", x.sheet(0, 0, -1, 2, 0), -2);
        Check.due("n -1, and no such POINT", x.sheet(-7, 0, -1, 2, 0), -2);
        Check.due("missing", x.sheet(0, 3, 2, 2, 0), -3);
        Check.due("missing, n -1", x.sheet(0, 3, -1, 2, 0), -3);
        Check.due("missing, n 0", x.sheet(0, 3, 0, 2, 0), -3);
        Check.row("the ROW stays", x, 1, 2, 1);
        Check.due("POINT -1", x.sheet(-1, 2, 3, 2, 0), -4);
        Check.row("POINT -1", x, 0, 1);
        Check.due("POINT 15", x.sheet(13, 2, 3, 0, 0), -4);
        Check.row("POINT 15", x, 2, 1);
        Check.due("the greatest POINT", x.sheet(Integer.MAX_VALUE, 2, 160, 0, 0), -4);
        Check.row("the greatest POINT", x, 0, 1);
        Check.due("no such POINT comes ahead of its LABEL", x.sheet(15, 2, 1, 9, 0), -4);
        Check.row("no such POINT, no such LABEL", x, 0, 1);
        Check.due("the first such entry", x.sheet(0, 2, 160, 2, -2), -4);
        Check.row("the first such entry", x, 1, 2);
        Check.due("LABEL 3", x.sheet(6, 2, 1, 3, 0), -4);
        Check.row("LABEL 3", x, 0, 2);
        Check.due("160 entries", x.sheet(6, 2, 160, 0, 0), -4);
        Check.row("160 entries: 9 can be, then there is no POINT", x, 9, 1);
        Check.due("RULE stays", x.count(3), 1);
        Check.told("LABELS stay", x, "22111" + "2211" + "000" + "00" + "0");
    }
}
