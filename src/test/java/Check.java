import java.util.NoSuchElementException;

/** Counts answers that are not as due, and has short ways to use a river. */
final class Check {
    /** What a call that throws NoSuchElementException counts as. */
    static final long THROWN = Long.MIN_VALUE;

    private final String name;
    private int wrong;
    private int checked;

    Check(String name) {
        this.name = name;
    }

    void due(String call, Object got, Object want) {
        checked++;
        if (!got.equals(want)) {
            wrong++;
            System.out.println(name + ": " + call + " answered " + got + ", due is " + want);
        }
    }

    /** The row that the river has must be just this one. */
    void row(String call, BumpsRiver river, long... want) {
        due(call + ", the row", rowOf(river), java.util.Arrays.toString(want));
    }

    /** An answer and the row behind it. */
    void both(String call, BumpsRiver river, int got, int want, long... row) {
        due(call, got, want);
        row(call, river, row);
    }

    void finish() {
        System.out.println(name + ": " + checked + " checked, " + wrong + " wrong");
        if (wrong > 0) {
            System.exit(1);
        }
    }

    int checked() {
        return checked;
    }

    /** Boats from the head on. */
    static String order(BumpsRiver river) {
        StringBuilder order = new StringBuilder();
        for (int place = 0; place < river.count(0); place++) {
            order.append(river.at(place));
        }
        return order.toString();
    }

    /** What undo() brings back. */
    static String state(BumpsRiver river) {
        StringBuilder state = new StringBuilder();
        for (int what = 0; what < 7; what++) {
            state.append(river.count(what)).append(' ');
        }
        for (int boat = 0; boat < river.count(0); boat++) {
            state.append(river.boat(boat, 0)).append(river.boat(boat, 1)).append(river.boat(boat, 2)).append(' ');
        }
        return state.toString();
    }

    /** All that can be seen of a river without changing it. */
    static String whole(BumpsRiver river) {
        StringBuilder whole = new StringBuilder(state(river));
        for (int what = 7; what <= 10; what++) {
            whole.append(river.count(what)).append(' ');
        }
        for (int boat = 0; boat < river.count(0); boat++) {
            whole.append(river.boat(boat, 4)).append(river.boat(boat, 5)).append(' ');
        }
        return whole.append(rowOf(river)).toString();
    }

    static String rowOf(BumpsRiver river) {
        long[] row = new long[river.count(9)];
        for (int i = 0; i < row.length; i++) {
            row[i] = river.row(i);
        }
        return java.util.Arrays.toString(row);
    }

    /** Puts a text in the place of THE TEXT. */
    static void say(BumpsRiver river, String text) {
        river.end(0);
        for (int i = 0; i < text.length(); i += 4) {
            int v = 0;
            for (int k = i; k < i + 4; k++) {
                v = v << 8 | (k < text.length() ? text.charAt(k) : 0);
            }
            river.sign(v);
        }
        river.end(text.length());
    }

    static BumpsRiver with(String boats) {
        BumpsRiver river = new BumpsRiver();
        say(river, boats);
        river.boats();
        return river;
    }

    static BumpsRiver with(String boats, String rule) {
        BumpsRiver river = with(boats);
        ruled(river, rule);
        return river;
    }

    /** A rule that the test means to be a fine one. */
    static void ruled(BumpsRiver river, String rule) {
        if (rule(river, rule) != 0) {
            throw new IllegalStateException("a wrong rule in a test: " + rule);
        }
    }

    /** The first n of six boats, each of another pace. */
    static BumpsRiver first(int n) {
        return with("10;20;30;40;50;60".substring(0, Math.max(0, 3 * n - 1)));
    }

    static String times(String part, int n) {
        return new String(new char[n]).replace("\0", part);
    }

    static int rule(BumpsRiver river, String text) {
        say(river, text);
        return river.rule();
    }

    static int boats(BumpsRiver river, String text) {
        say(river, text);
        return river.boats();
    }

    static int week(BumpsRiver river, String text) {
        say(river, text);
        return river.week();
    }

    static int soonest(BumpsRiver river, String text) {
        say(river, text);
        return river.soonest();
    }

    static int crossed(BumpsRiver river, String text) {
        say(river, text);
        return river.crossed();
    }

    static int chart(BumpsRiver river, String text) {
        say(river, text);
        return river.chart();
    }

    static int law(BumpsRiver river, String text) {
        say(river, text);
        return river.law();
    }

    static long boat(BumpsRiver river, int boat, int what) {
        try {
            return river.boat(boat, what);
        } catch (NoSuchElementException e) {
            return THROWN;
        }
    }

    static long at(BumpsRiver river, int place) {
        try {
            return river.at(place);
        } catch (NoSuchElementException e) {
            return THROWN;
        }
    }

    static long row(BumpsRiver river, int i) {
        try {
            return river.row(i);
        } catch (NoSuchElementException e) {
            return THROWN;
        }
    }
}
