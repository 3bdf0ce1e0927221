import java.util.NoSuchElementException;

/** What the tests share: counting wrong answers, telling texts, reading ROWS. */
final class Check {
    /** A call that may throw. */
    interface Call {
        long run();
    }

    private static int right = 0;
    private static int wrong = 0;

    private Check() {
    }

    static void due(String what, long got, long want) {
        if (got == want) {
            right++;
        } else {
            wrong++;
            System.out.println(what + " answered " + got + ", due is " + want);
        }
    }

    static void due(String what, boolean got, boolean want) {
        due(what, got ? 1 : 0, want ? 1 : 0);
    }

    /** The whole ROW, its length too. */
    static void row(String what, DoorWalk x, long... want) {
        due(what + ": numbers of the ROW", x.count(7), want.length);
        for (int k = 0; k < want.length; k++) {
            int at = k;
            due(what + ": row(" + k + ")", orNone(() -> x.row(at)), want[k]);
        }
    }

    private static long orNone(Call call) {
        try {
            return call.run();
        } catch (NoSuchElementException e) {
            return Long.MIN_VALUE;
        }
    }

    static void none(String what, Call call) {
        long got;
        try {
            got = call.run();
        } catch (NoSuchElementException e) {
            right++;
            return;
        }
        wrong++;
        System.out.println(what + " answered " + got + ", due is NoSuchElementException");
    }

    /** Puts signs behind THE TEXT. */
    static void text(DoorWalk x, String signs) {
        int before = x.count(8);
        for (int p = 0; p < signs.length(); p += 4) {
            int v = 0;
            for (int k = p; k < p + 4; k++) {
                v = v << 8 | (k < signs.length() ? signs.charAt(k) : 0);
            }
            x.sign(v);
        }
        if (!x.end(before + signs.length())) {
            throw new IllegalStateException("the text does not go in: " + signs);
        }
    }

    static DoorWalk labels(String signs) {
        DoorWalk x = new DoorWalk();
        text(x, signs);
        due("labels() of " + signs, x.labels(), signs.length() - 2);
        return x;
    }

    static DoorWalk exchange(String signs) {
        DoorWalk x = new DoorWalk();
        text(x, signs);
        due("exchange() of " + signs, x.exchange(), (signs.length() + 1) / 7);
        return x;
    }

    static DoorWalk map(String signs, int sum) {
        DoorWalk x = new DoorWalk();
        text(x, signs);
        due("map() of " + signs, x.map(), sum);
        return x;
    }

    /** All LABELS of the GRID by numbers of POINTS. */
    static String told(DoorWalk x) {
        StringBuilder s = new StringBuilder();
        int n = x.count(0);
        for (int i = 0; i <= n; i++) {
            for (int j = 0; j <= n - i; j++) {
                s.append(x.label(i, j));
            }
        }
        return s.toString();
    }

    static void told(String what, DoorWalk x, String want) {
        String got = told(x);
        if (got.equals(want)) {
            right++;
        } else {
            wrong++;
            System.out.println(what + ": LABELS are " + got + ", due are " + want);
        }
    }

    static void finish() {
        System.out.println(right + " answers as due, " + wrong + " not");
        if (wrong != 0 || right == 0) {
            System.exit(1);
        }
    }
}
