import java.util.NoSuchElementException;

/** Counts answers that are not as due, and has short ways to use a river. */
final class Check {
    /** What a call that throws NoSuchElementException counts as. */
    static final long THROWN = Long.MIN_VALUE;

    private final String name;
    private int wrong;
    private int checked;

    Check(String name) {
        this.name = name;
    }

    void due(String call, Object got, Object want) {
        checked++;
        if (!got.equals(want)) {
            wrong++;
            System.out.println(name + ": " + call + " answered " + got + ", due is " + want);
        }
    }

    /** The row that the river has must be just this one. */
    void row(String call, BumpsRiver river, long... want) {
        due(call + ", the row", rowOf(river), java.util.Arrays.toString(want));
    }

    /** An answer and the row behind it. */
    void both(String call, BumpsRiver river, int got, int want, long... row) {
        due(call, got, want);
        row(call, river, row);
    }

    void finish() {
        System.out.println(name + ": " + checked + " checked, " + wrong + " wrong");
        if (wrong > 0) {
            System.exit(1);
        }
    }

    static String rowOf(BumpsRiver river) {
        long[] row = new long[river.count(9)];
        for (int i = 0; i < row.length; i++) {
            row[i] = river.row(i);
        }
        return java.util.Arrays.toString(row);
    }

    /** Puts a text in the place of THE TEXT. */
    static void say(BumpsRiver river, String text) {
        river.end(0);
        for (int i = 0; i < text.length(); i += 4) {
            int v = 0;
            for (int k = i; k < i + 4; k++) {
                v = v << 8 | (k < text.length() ? text.charAt(k) : 0);
            }
            river.sign(v);
        }
        river.end(text.length());
    }

    static BumpsRiver with(String boats) {
        BumpsRiver river = new BumpsRiver();
        say(river, boats);
        river.boats();
        return river;
    }

    static int rule(BumpsRiver river, String text) {
        say(river, text);
        return river.rule();
    }

    static int boats(BumpsRiver river, String text) {
        say(river, text);
        return river.boats();
    }

    static int week(BumpsRiver river, String text) {
        say(river, text);
        return river.week();
    }

    static long boat(BumpsRiver river, int boat, int what) {
        try {
            return river.boat(boat, what);
        } catch (NoSuchElementException e) {
            return THROWN;
        }
    }

    static long at(BumpsRiver river, int place) {
        try {
            return river.at(place);
        } catch (NoSuchElementException e) {
            return THROWN;
        }
    }

    static long row(BumpsRiver river, int i) {
        try {
            return river.row(i);
        } catch (NoSuchElementException e) {
            return THROWN;
        }
    }
}
