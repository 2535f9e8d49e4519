/** Promises 40 to 44: chances, the game of strokes, other rules, crews, years. */
final class EdgesOfChances {
    private static final int[] NO_BOATS = {3, -1, 6, Integer.MIN_VALUE, Integer.MAX_VALUE};

    private final Sentences s;

    EdgesOfChances(Sentences s) {
        this.s = s;
    }

    void check() {
        likely();
        pulls();
        law();
        crews();
        years();
        yearsDrawn();
    }

    private void likely() {
        s.promise(40);
        s.says("Each BOAT has 1 PACE more (10, too) on this DAY by p tenths (0 .. 10), each by itself");
        // boat 1 touches if it alone rows better
        BumpsRiver two = Check.with("10;10");
        s.both("p 0", two, two.likely(1, 0), 0, 0, 1);
        s.both("p 1", two, two.likely(1, 1), 0, 9, 100);
        s.both("p 5", two, two.likely(1, 5), 0, 1, 4);
        s.both("p 10", two, two.likely(1, 10), 0, 0, 1);
        BumpsRiver nines = Check.with("90;90", "(p=10)*i*20");
        s.both("10, p 3", nines, nines.likely(1, 3), 0, 3, 10);
        s.both("10, p 10", nines, nines.likely(1, 10), 0, 1, 1);
        s.due("they stay", nines.count(5), 18);

        s.says("how likely a BOAT TOUCHES: 0; the ROW: the fraction.");
        s.both("the head", two, two.likely(0, 5), 0, 0, 1);
        BumpsRiver sure = Check.with("10;90");
        s.both("for sure", sure, sure.likely(1, 5), 0, 1, 1);
        BumpsRiver six = Check.with("10;10;10;10;10;10", "(p=2)*(i=5)*20");
        s.both("one of six", six, six.likely(5, 1), 0, 1, 10);
        s.both("another one", six, six.likely(4, 1), 0, 0, 1);
        // boat 5 touches if it alone of all six rows better: in one stroke of nine feet more
        Check.ruled(six, "(p=2)*9");
        six.strokes(1);
        s.both("it, and the one ahead of it not", six, six.likely(5, 1), 0, 9, 100);
        BumpsRiver three = Check.with("10;10;10", "(p=2)*9");
        three.strokes(1);
        // boat 1 touches boat 0: 1 of 10 by 9 of 10; boat 2 touches boat 1 if this one does not row better
        s.both("the second one of three", three, three.likely(1, 3), 0, 21, 100);
        s.both("the third one of three", three, three.likely(2, 3), 0, 21, 100);

        s.says("NONE: others.");
        String before = Check.whole(three);
        for (int boat : NO_BOATS) {
            s.due("likely(" + boat + ", 5)", three.likely(boat, 5), -1);
        }
        int[] others = {-1, 11, Integer.MIN_VALUE, Integer.MAX_VALUE};
        for (int p : others) {
            s.due("likely(1, " + p + ")", three.likely(1, p), -1);
        }
        s.due("without boats", new BumpsRiver().likely(0, 5), -1);
        s.same("others", three, before);
    }

    /** Whether who is to row wins, tried out to the end. */
    private static boolean wins(int left, int k, Boolean[] known) {
        if (left == 0) {
            return true;
        }
        if (known[left] == null) {
            boolean can = false;
            for (int pull = 1; pull <= left; pull++) {
                can |= (pull <= k || 2 * pull == left) && !wins(left - pull, k, known);
            }
            known[left] = can;
        }
        return known[left];
    }

    private static int pullOf(int n, int k) {
        Boolean[] known = new Boolean[61];
        for (int pull = 1; pull <= n; pull++) {
            if ((pull <= k || 2 * pull == n) && !wins(n - pull, k, known)) {
                return pull;
            }
        }
        return 0;
    }

    private void pulls() {
        BumpsRiver river = new BumpsRiver();
        s.promise(41);
        s.says("Of n (0 .. 60) strokes that are left two row by turns 1 .. k (2 .. 9), no more than are left, "
            + "or just half of them, if they are even");
        for (int k = 2; k <= 9; k++) {
            for (int n = 0; n <= 60; n++) {
                s.due("pulls(" + n + ", " + k + ")", river.pulls(n, k), pullOf(n, k));
            }
        }

        s.says("who rows the last one has lost (with none left: who is to row has won)");
        s.due("of one", river.pulls(1, 9), 0);
        s.due("of two: one, so that one is left", river.pulls(2, 9), 1);
        s.due("of ten: nine", river.pulls(10, 9), 9);
        s.due("of eleven", river.pulls(11, 9), 0);

        s.says("the least number by which the first one wins; 0: by none (n 0, too).");
        s.due("of 60 by 9", river.pulls(60, 9), 9);
        s.due("of 60 by 2", river.pulls(60, 2), 2);
        s.due("of 59 by 2", river.pulls(59, 2), 1);
        s.due("of 58 by 2", river.pulls(58, 2), 0);
        for (int k = 2; k <= 9; k++) {
            s.due("pulls(0, " + k + ")", river.pulls(0, k), 0);
        }
        s.due("no row", river.count(9), 0);

        s.says("NONE: others.");
        int[] strokes = {-1, 61, Integer.MIN_VALUE, Integer.MAX_VALUE};
        for (int n : strokes) {
            s.due("pulls(" + n + ", 2)", river.pulls(n, 2), -1);
        }
        int[] most = {1, 10, 0, -1, Integer.MIN_VALUE, Integer.MAX_VALUE};
        for (int k : most) {
            s.due("pulls(5, " + k + ")", river.pulls(5, k), -1);
            s.due("pulls(0, " + k + ")", river.pulls(0, k), -1);
        }
    }

    private void lawFault(String text, int want) {
        BumpsRiver river = Check.with("30;50;40", "7");
        river.over();
        String before = Check.whole(river);
        s.due(text, Check.law(river, text), want);
        s.same(text, river, before);
        s.due(text + ": the rule stays", river.lies(0, 1), 1007);
    }

    private void law() {
        s.promise(42);
        s.says("THE TEXT is another RULE (an empty one: none): pairs that TOUCH on this DAY by it, less by THE RULE: "
            + "how many (below 0, too)");
        BumpsRiver river = Check.with("30;50;40");
        s.due("the same", Check.law(river, ""), 0);
        s.due("none touch by it", Check.law(river, "0"), -1);
        Check.ruled(river, "0");
        s.due("one more", Check.law(river, ""), 1);
        BumpsRiver six = Check.with("10;10;10;10;10;10", EdgesOfTerms.ODD_ONES_TOUCH);
        s.due("three fewer", Check.law(six, "0"), -3);
        Check.ruled(six, "0");
        s.due("three more", Check.law(six, EdgesOfTerms.ODD_ONES_TOUCH), 3);
        s.due("without boats", Check.law(new BumpsRiver(), "p"), 0);

        s.says("the ROW: both, then BOATS from the head on as they stand behind this DAY by it.");
        s.row("of six", Check.with("11"), new long[0]);
        s.both("three more", six, Check.law(six, EdgesOfTerms.ODD_ONES_TOUCH), 3, 3, 0, 1, 0, 3, 2, 5, 4);
        s.both("as they stand", six, Check.law(six, "0"), 0, 0, 0, 0, 1, 2, 3, 4, 5);
        river.scratches(0);
        s.both("from how they stand", river, Check.law(river, "i*9"), 1, 1, 0, 2, 1, 0);
        BumpsRiver none = new BumpsRiver();
        s.both("without boats", none, Check.law(none, "p"), 0, 0, 0);
        s.due("no day passes", six.count(3) + six.count(8) + six.count(4), 0);
        s.due("the rule stays", six.race(), 0);

        s.says("-10000 - p: the sign at p can't stand there (as rule()).");
        String odd = "1" + Check.times("+1", 19);
        lawFault("z", -10000);
        lawFault("p+", -10002);
        lawFault("pp", -10001);
        lawFault("1234", -10003);
        lawFault("(((((p)))))", -10004);
        lawFault("p<x<t", -10003);
        lawFault("(p", -10002);
        lawFault(odd + "+", -10040);
        lawFault("1" + odd + "+", -10040);
        lawFault("1" + odd + "z", -10040);
        lawFault("z" + odd + "+1", -10000);
        s.due("just forty", Check.law(six, "1" + odd), 0);
    }

    private void crews() {
        BumpsRiver river = new BumpsRiver();
        s.promise(43);
        s.says("Two crews spurt by x and y (0 .. 9); who spurts more has v (0 .. 20), of like ones neither; "
            + "each pays 1 for each of its own, and, if it spurts less, 1 more.");
        for (int v = 0; v <= 20; v++) {
            s.due("crews(" + v + ")", river.crews(v), steadyPairs(v));
        }

        s.says("Pairs by which neither would have more by another number alone: how many");
        // 0 0 and 1 1: a spurt of one less or more is paid for
        s.due("crews(0)", river.crews(0), 2);
        // 0 0, 0 1, 1 0 and 1 1
        s.due("crews(1)", river.crews(1), 4);
        s.due("crews(2)", river.crews(2), 0);
        s.due("crews(20)", river.crews(20), 0);

        s.says("the ROW: the least (nothing without).");
        s.both("crews(0)", river, river.crews(0), 2, 0, 0);
        s.both("crews(2)", river, river.crews(2), 0);
        s.both("crews(1)", river, river.crews(1), 4, 0, 0);
        s.both("crews(20)", river, river.crews(20), 0);

        s.says("NONE: another v.");
        river.crews(1);
        int[] others = {-1, 21, Integer.MIN_VALUE, Integer.MAX_VALUE};
        for (int v : others) {
            s.both("crews(" + v + ")", river, river.crews(v), -1, 0, 0);
        }
    }

    private static int has(int own, int other, int v) {
        int has = -own;
        if (own > other) {
            has += v;
        }
        if (own < other) {
            has -= 1;
        }
        return has;
    }

    private static int steadyPairs(int v) {
        int pairs = 0;
        for (int x = 0; x <= 9; x++) {
            for (int y = 0; y <= 9; y++) {
                boolean steady = true;
                for (int other = 0; other <= 9; other++) {
                    steady &= has(other, y, v) <= has(x, y, v) && has(other, x, v) <= has(y, x, v);
                }
                pairs += steady ? 1 : 0;
            }
        }
        return pairs;
    }

    private void years() {
        s.promise(44);
        s.says("n times (1 .. 60)");
        BumpsRiver river = Check.with("30;50;40");
        yearsAre("30;50;40", 1, 1);
        yearsAre("30;50;40", 1, 60);
        yearsAre("38;57;49;61;25;77", 12345, 60);

        s.says("a DRAW of 4 tells: 0, 1: A DAY");
        // R behind one draw is 12345 for the seed 0: (0 by 65536) % 4 is 0
        s.both("seed 0", river, river.years(0, 1), 1, 1, 1);
        int seed = seedFor(1);
        s.both("a draw of 1", river, river.years(seed, 1), 1, 1, 1);

        s.says("2: a DRAW of BOATS, a DRAW of 9 (1 more) tell which has what PACE then");
        seed = seedFor(2);
        s.both("a draw of 2", river, river.years(seed, 1), 0, 0, 0);
        yearsAre("30;50;40", seed, 2);
        yearsAre("30;50;40", seed, 20);

        s.says("3: a DRAW of BOATS tells which scratches (the last one: nothing; 2, 3: no DRAWS without BOATS)");
        seed = seedFor(3);
        yearsAre("30;50;40", seed, 1);
        yearsAre("30;50;40", seed, 30);
        for (int each = 0; each < 30; each++) {
            yearsAre("30", each * 77773, 6);
            yearsAre("90;50", each * 77773, 1);
        }
        BumpsRiver none = new BumpsRiver();
        s.both("without boats", none, none.years(seed, 60), -1, 0, 0);

        s.says("the BOAT at the head then (NONE: none)");
        s.due("a day", river.years(0, 1), 1);
        s.due("none", new BumpsRiver().years(5, 60), -1);

        s.says("the ROW: pairs that TOUCHED in these, TIRED of all then.");
        BumpsRiver six = Check.with("19;19;19;19;19;19", EdgesOfTerms.ODD_ONES_TOUCH);
        s.both("three pairs on a day", six, six.years(0, 1), 1, 3, 48);
        s.both("none", none, none.years(0, 1), -1, 0, 0);

        s.says("-2: another n.");
        String before = Check.whole(six);
        int[] others = {0, 61, -1, Integer.MIN_VALUE, Integer.MAX_VALUE};
        for (int n : others) {
            s.due("years(1, " + n + ")", six.years(1, n), -2);
        }
        s.due("without boats", none.years(1, 0), -2);
        s.same("another n", six, before);
    }

    private void yearsDrawn() {
        s.says("A DRAW of n: R = R times 1103515245 + 12345 (as ints; R is seed at first), "
            + "(R without sign, by 65536) % n.");
        int[] seeds = {0, 1, -1, 2, 7, 65535, 65536, Integer.MAX_VALUE, Integer.MIN_VALUE, 1103515245, 0x5a5a5a5a};
        for (int seed : seeds) {
            yearsAre("30;50;40", seed, 1);
            yearsAre("38;57;49;61;25", seed, 37);
            yearsAre("38;57;49;61;25;77", seed, 60);
        }
        BumpsRiver river = Check.with("30;50;40");
        String state = Check.state(river);
        int first = river.years(99, 60);
        s.due("R is the seed each time", river.years(99, 60), first);
        s.due("nothing changes", Check.state(river) + river.count(8), state + "0");
    }

    private long drawn;

    private int draw(int n) {
        drawn = (drawn * 1103515245L + 12345L) & 0xffffffffL;
        return (int) (drawn / 65536 % n);
    }

    private int seedFor(int kind) {
        for (int seed = 0; ; seed++) {
            drawn = seed;
            if (draw(4) == kind) {
                return seed;
            }
        }
    }

    /** The years done by calls of days, paces and scratches on a second river. */
    private void yearsAre(String boats, int seed, int n) {
        BumpsRiver done = Check.with(boats);
        drawn = seed & 0xffffffffL;
        long pairs = 0;
        for (int i = 0; i < n; i++) {
            int kind = draw(4);
            if (kind < 2) {
                done.days(1);
                pairs += done.row(0);
            } else if (kind == 2) {
                int boat = draw(done.count(0));
                done.paces(boat, draw(9) + 1);
            } else {
                done.scratches(draw(done.count(0)));
            }
        }
        BumpsRiver asked = Check.with(boats);
        s.both("years(" + seed + ", " + n + ") of " + boats, asked, asked.years(seed, n), done.at(0), pairs,
            done.count(6));
    }
}
