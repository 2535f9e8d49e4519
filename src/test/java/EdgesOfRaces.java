/** Promises 17 to 25: a race, and what comes later. */
final class EdgesOfRaces {
    private static final String THREE = "30;50;40";
    private static final int[] NO_BOATS = {3, -1, 6, Integer.MIN_VALUE, Integer.MAX_VALUE};

    private final Sentences s;

    EdgesOfRaces(Sentences s) {
        this.s = s;
    }

    void check() {
        race();
        lies();
        over();
        closest();
        later();
        head();
        bumps();
        blades();
        round();
    }

    private void race() {
        s.promise(17);
        s.says("Pairs that TOUCH on this DAY: how many");
        BumpsRiver six = Check.with("10;10;10;10;10;10", EdgesOfTerms.ODD_ONES_TOUCH);
        s.due("three", six.race(), 3);
        Check.ruled(six, "(i=1)*20");
        s.due("one", six.race(), 1);
        Check.ruled(six, "0");
        s.both("none", six, six.race(), 0);
        BumpsRiver one = Check.with("90");
        s.both("one boat", one, one.race(), 0);
        BumpsRiver none = new BumpsRiver();
        none.days(1);
        s.both("without boats", none, none.race(), 0);

        s.says("the ROW: for each the stroke (1 ..), who TOUCHES, whom, in the order in which it comes.");
        Check.ruled(six, EdgesOfTerms.ODD_ONES_TOUCH);
        s.both("all in stroke 1, from the head on", six, six.race(), 3, 1, 1, 0, 1, 3, 2, 1, 5, 4);
        Check.ruled(six, "(i=5)*20+(i=3)*5+(i=1)");
        s.both("from the foot on, stroke by stroke", six, six.race(), 3, 1, 5, 4, 2, 3, 2, 9, 1, 0);
        six.strokes(40);
        Check.ruled(six, "(t=39)*(i=5)*9");
        s.both("in stroke 40", six, six.race(), 1, 40, 5, 4);
        six.days(1);
        s.both("boats, not places", six, six.race(), 1, 40, 4, 5);
    }

    private void lies() {
        s.promise(18);
        s.says("Where a BOAT LIES behind t strokes (0 .. 40) of this DAY's RACE");
        BumpsRiver river = Check.with(THREE);
        s.due("t 0", river.lies(2, 0), 982);
        s.due("t 1", river.lies(2, 1), 986);
        s.due("t 40", river.lies(2, 40), 1142);

        s.says("(it stays where it LIES when it is RACING no more; STROKES aside)");
        s.due("just ahead", river.lies(1, 4), 1011);
        s.due("it touches", river.lies(1, 5), 1016);
        s.due("it stays", river.lies(1, 40), 1016);
        s.due("the other one", river.lies(0, 40), 1015);
        river.strokes(1);
        s.due("STROKES 1", river.lies(1, 40), 1016);
        s.due("STROKES 1, the third one", river.lies(2, 40), 1142);

        s.says("1000 and that");
        river.gap(30);
        s.due("far below 0", river.lies(2, 0), 940);
        s.due("0", river.lies(0, 0), 1000);
        Check.ruled(river, "20");
        s.due("the most", river.lies(0, 40), 1800);
        BumpsRiver six = Check.with("10;10;10;10;10;10", "0");
        six.gap(30);
        s.due("the least", six.lies(5, 40), 850);

        s.says("the ROW: 1 if it is RACING yet, else 0.");
        river = Check.with(THREE);
        s.both("ahead of it", river, river.lies(1, 4), 1011, 1);
        s.both("it touches", river, river.lies(1, 5), 1016, 0);
        s.both("it is touched", river, river.lies(0, 5), 1015, 0);
        s.both("neither", river, river.lies(2, 40), 1142, 1);

        s.says("NONE: others.");
        String before = Check.whole(river);
        for (int boat : NO_BOATS) {
            s.due("lies(" + boat + ", 0)", river.lies(boat, 0), -1);
        }
        int[] others = {-1, 41, Integer.MIN_VALUE, Integer.MAX_VALUE};
        for (int t : others) {
            s.due("lies(0, " + t + ")", river.lies(0, t), -1);
        }
        s.due("without boats", new BumpsRiver().lies(0, 0), -1);
        s.same("others", river, before);
    }

    private void over() {
        s.promise(19);
        s.says("BOATS (bits) that are RACING to the end on this DAY");
        BumpsRiver river = Check.with(THREE);
        s.due("one of three", river.over(), 4);
        river.strokes(4);
        s.due("all", river.over(), 7);
        BumpsRiver six = Check.with("10;10;10;10;10;10", EdgesOfTerms.ODD_ONES_TOUCH);
        s.due("none of six", six.over(), 0);
        Check.ruled(six, "0");
        s.due("all of six", six.over(), 63);
        BumpsRiver none = new BumpsRiver();
        s.due("without boats", none.over(), 0);

        s.says("the ROW: those that TOUCH, those that are TOUCHED (bits).");
        s.row("without boats", none, 0, 0);
        s.both("none touch", six, six.over(), 63, 0, 0);
        Check.ruled(six, EdgesOfTerms.ODD_ONES_TOUCH);
        s.both("all touch", six, six.over(), 0, 42, 21);
        six.days(1);
        s.both("boats, not places", six, six.over(), 0, 21, 42);
    }

    private void closest() {
        s.promise(20);
        s.says("The fewest feet by which a BOAT is behind the next RACING one ahead of it");
        BumpsRiver river = Check.with(THREE);
        s.due("boat 1", river.closest(1), 1);
        s.due("boat 2", river.closest(2), 9);
        // boat 2 touches boat 1 in stroke 9; boat 0 is 18 feet ahead of boat 3 then
        BumpsRiver four = Check.with("20;20;30;30");
        s.both("the next one that races", four, four.closest(3), 7, 20, 0);

        s.says("behind 0, 1, .. STROKES of this DAY's RACE");
        BumpsRiver two = Check.with("10;10", "(t=39)*i");
        two.strokes(39);
        s.both("behind 0 alone", two, two.closest(1), 9, 0, 0);
        two.strokes(40);
        s.both("behind the last of 40", two, two.closest(1), 8, 40, 0);
        two.strokes(1);
        Check.ruled(two, "(t=0)*i");
        s.both("behind the only one", two, two.closest(1), 8, 1, 0);

        s.says("while it is RACING and there is one: how many");
        // behind stroke 5 boat 1 would be 1 foot ahead of boat 0
        s.both("till it touches", river, river.closest(1), 1, 4, 0);
        BumpsRiver once = Check.with("10;90");
        once.gap(1);
        s.both("it touches in stroke 1", once, once.closest(1), 1, 0, 0);
        // boats 0 and 1 are out behind stroke 5, so boat 2 has none ahead
        s.both("till none is ahead", river, river.closest(2), 9, 0, 1);

        s.says("the ROW: behind how many strokes first, which BOAT that is.");
        BumpsRiver like = Check.with("30;30;30");
        s.both("like ones: the first", like, like.closest(2), 9, 0, 1);
        Check.ruled(like, "(t=3)*i");
        s.both("like ones: the first of some", like, like.closest(2), 8, 4, 1);
        like.scratches(0);
        s.both("boats, not places", like, like.closest(0), 8, 4, 2);

        s.says("-2: it is never so");
        String before = Check.whole(like);
        s.due("the head", like.closest(1), -2);
        s.same("the head", like, before);
        s.due("the only one", Check.with("90").closest(0), -2);

        s.says("NONE: none such.");
        for (int boat : NO_BOATS) {
            s.due("closest(" + boat + ")", like.closest(boat), -1);
        }
        s.due("without boats", new BumpsRiver().closest(0), -1);
        s.same("none such", like, before);
    }

    private void later() {
        s.promise(21);
        s.says("PLACE of a BOAT in n DAYS (0 .. 60), if nothing else is done");
        BumpsRiver river = Check.with(THREE);
        s.due("later(1, 0)", river.later(1, 0), 1);
        s.due("later(1, 1)", river.later(1, 1), 0);
        s.due("later(0, 2)", river.later(0, 2), 2);
        BumpsRiver two = Check.with("10;10", "i*20");
        s.due("later(0, 59)", two.later(0, 59), 1);
        s.due("later(0, 60)", two.later(0, 60), 0);

        s.says("the ROW: TIRED then, TOUCHES more till then (whole).");
        s.both("later(2, 0)", river, river.later(2, 0), 2, 0, 0);
        s.both("later(2, 1)", river, river.later(2, 1), 2, 1, 1);
        s.both("later(1, 60)", river, river.later(1, 60), 0, 9, 2);
        BumpsRiver six = Check.with("10;10;10;10;10;10", EdgesOfTerms.ODD_ONES_TOUCH);
        s.both("of six", six, six.later(5, 60), 5, 0, 180);
        for (int i = 0; i < 56; i++) {
            six.days(60);
        }
        s.due("TOUCHES are at their most", six.count(4), 9999);
        s.both("all the same", six, six.later(5, 60), 5, 0, 180);

        s.says("NONE: others.");
        String before = Check.whole(river);
        for (int boat : NO_BOATS) {
            s.due("later(" + boat + ", 1)", river.later(boat, 1), -1);
        }
        int[] others = {-1, 61, Integer.MIN_VALUE, Integer.MAX_VALUE};
        for (int n : others) {
            s.due("later(0, " + n + ")", river.later(0, n), -1);
        }
        s.due("without boats", new BumpsRiver().later(0, 0), -1);
        s.same("others", river, before);
    }

    private static BumpsRiver river(String boats, String rule, int gap, int strokes) {
        BumpsRiver river = Check.with(boats, rule);
        river.gap(gap);
        river.strokes(strokes);
        return river;
    }

    /** Races on day by day: in how many days the boat is at the head, of 60; the one ahead of it in former. */
    private static int headByDays(BumpsRiver river, int boat, long[] former) {
        former[0] = -1;
        for (int day = 0; day <= 60; day++) {
            if (river.at(0) == boat) {
                return day;
            }
            former[0] = river.at(0);
            river.days(1);
        }
        return -2;
    }

    private void headIs(String boats, String rule, int gap, int strokes, int boat, int want) {
        BumpsRiver asked = river(boats, rule, gap, strokes);
        long[] former = new long[1];
        s.due("day by day", headByDays(river(boats, rule, gap, strokes), boat, former), want);
        s.both("head(" + boat + ")", asked, asked.head(boat), want, want < 0 ? new long[0] : former);
    }

    private void head() {
        s.promise(22);
        s.says("In how many DAYS (0: now .. 60) a BOAT is at the head first, if nothing else is done: how many");
        BumpsRiver river = Check.with("10;20;50");
        s.due("now", river.head(0), 0);
        s.due("in two days", river.head(2), 2);
        BumpsRiver slow = Check.with("10;10", "(n=6)*i*9");
        s.due("in seven days", slow.head(1), 7);
        headIs("31;69;52;40;48;53", "p-x/2+(n=3)*i", 5, 25, 4, 60);

        s.says("the ROW: the BOAT that was there one DAY ahead of that (NONE: it is there now).");
        s.both("now", river, river.head(0), 0, -1);
        // boat 2 touches boat 1, then boat 0
        s.both("in two days", river, river.head(2), 2, 0);
        BumpsRiver three = Check.with("10;10;10", "(i=1+(n=2))*20");
        // 012, 102, 012, 021, 201
        s.both("not the one that is there now", three, three.head(2), 4, 0);
        s.both("nor the last one", three, three.head(1), 1, 0);

        s.says("-2: in none of these");
        s.due("never", river.head(1), -2);
        headIs("63;91;67;83;99;87", "p*(n<x)+i-x/2", 26, 18, 3, -2);
        BumpsRiver next = river("63;91;67;83;99;87", "p*(n<x)+i-x/2", 26, 18);
        next.days(1);
        s.due("in 61, a day later", next.head(3), 60);

        s.says("NONE: none such.");
        String before = Check.whole(river);
        for (int boat : NO_BOATS) {
            s.due("head(" + boat + ")", river.head(boat), -1);
        }
        s.due("without boats", new BumpsRiver().head(0), -1);
        s.same("none such", river, before);
    }

    /** Races on day by day: the first day of 60 on which one touches the other; on how many in times. */
    private static int bumpsByDays(BumpsRiver river, int one, int other, long[] times) {
        int first = -2;
        for (int day = 1; day <= 60; day++) {
            if (river.boat(one, 4) == other) {
                first = first < 0 ? day : first;
                times[0]++;
            }
            river.days(1);
        }
        return first;
    }

    private void bumpsAre(String boats, String rule, int gap, int strokes, int[] pair, int want) {
        BumpsRiver asked = river(boats, rule, gap, strokes);
        long[] times = new long[1];
        s.due("day by day", bumpsByDays(river(boats, rule, gap, strokes), pair[0], pair[1], times), want);
        s.both("bumps", asked, asked.bumps(pair[0], pair[1]), want, want < 0 ? new long[0] : times);
    }

    private void bumps() {
        s.promise(23);
        s.says("On which of the next DAYS (1: this one .. 60) one BOAT TOUCHES another one first, "
            + "if nothing else is done: it");
        BumpsRiver two = Check.with("10;10", "i*20");
        s.due("this one", two.bumps(1, 0), 1);
        s.due("the next one", two.bumps(0, 1), 2);
        bumpsAre("31;69;52;40;48;53", "p-x/2+(n=3)*i", 5, 25, new int[] {4, 1}, 60);

        s.says("the ROW: on how many of these 60.");
        s.both("every other day", two, two.bumps(1, 0), 1, 30);
        s.both("every other day, from the second one on", two, two.bumps(0, 1), 2, 30);
        Check.ruled(two, "(n=3)*i*20");
        // days 4, 11, 18, .., 60: boat 1 on those of odd number
        s.both("once a week", two, two.bumps(1, 0), 4, 5);
        s.both("once a week, the other one", two, two.bumps(0, 1), 11, 4);

        s.says("-2: on none");
        BumpsRiver river = Check.with(THREE);
        s.due("bumps(0, 1)", river.bumps(0, 1), -2);
        s.due("bumps(2, 1)", river.bumps(2, 1), -2);
        bumpsAre("65;73;84;82;56;70", "p*(n<x)+i-x/2", 12, 8, new int[] {3, 0}, -2);
        BumpsRiver next = river("65;73;84;82;56;70", "p*(n<x)+i-x/2", 12, 8);
        next.days(1);
        s.both("on day 61, a day later", next, next.bumps(3, 0), 60, 1);

        s.says("NONE: none such, like ones.");
        river.race();
        String before = Check.whole(river);
        for (int boat : NO_BOATS) {
            s.due("bumps(" + boat + ", 0)", river.bumps(boat, 0), -1);
            s.due("bumps(0, " + boat + ")", river.bumps(0, boat), -1);
        }
        s.due("bumps(1, 1)", river.bumps(1, 1), -1);
        s.due("without boats", new BumpsRiver().bumps(0, 1), -1);
        s.same("none such", river, before);
    }

    private void blades() {
        s.promise(24);
        s.says("BOATS (bits) that TOUCH on each of the next n DAYS (1 .. 9), if nothing else is done (blades)");
        // boat 2 touches boat 1 and, on the second day, boat 0
        BumpsRiver river = Check.with("10;10;90");
        s.due("blades(1)", river.blades(1), 4);
        s.due("blades(2)", river.blades(2), 4);
        s.due("blades(3)", river.blades(3), 0);
        s.due("blades(9)", river.blades(9), 0);
        // boat 5 goes up a place on each of five days
        BumpsRiver six = Check.with("10;10;10;10;10;90");
        for (int n = 1; n <= 9; n++) {
            s.due("blades(" + n + ") of six", six.blades(n), n <= 5 ? 32 : 0);
        }
        s.due("without boats", new BumpsRiver().blades(9), 0);

        s.says("the ROW: those that are TOUCHED on each.");
        s.both("another one each day", six, six.blades(2), 32, 0);
        BumpsRiver down = Check.with(THREE);
        s.both("one day", down, down.blades(1), 2, 1);
        // boat 0 is touched by boat 1, then by boat 2
        s.both("two days", down, down.blades(2), 0, 1);
        s.both("three days", down, down.blades(3), 0, 0);
        BumpsRiver none = new BumpsRiver();
        s.both("without boats", none, none.blades(1), 0, 0);

        s.says("NONE: another n.");
        String before = Check.whole(down);
        int[] others = {0, 10, -1, Integer.MIN_VALUE, Integer.MAX_VALUE};
        for (int n : others) {
            s.due("blades(" + n + ")", down.blades(n), -1);
        }
        s.same("another n", down, before);
    }

    /** Races on day by day: in how many of 60 days they stand as now; how many orders there were in orders. */
    private static int roundByDays(BumpsRiver river, long[] orders) {
        java.util.Set<String> seen = new java.util.HashSet<>();
        String now = Check.order(river);
        for (int day = 1; day <= 60; day++) {
            seen.add(Check.order(river));
            river.days(1);
            if (Check.order(river).equals(now)) {
                orders[0] = seen.size();
                return day;
            }
        }
        return -2;
    }

    private void roundIs(String boats, String rule, int gap, int strokes, int want) {
        BumpsRiver asked = river(boats, rule, gap, strokes);
        long[] orders = new long[1];
        s.due("day by day", roundByDays(river(boats, rule, gap, strokes), orders), want);
        s.both("round()", asked, asked.round(), want, want < 0 ? new long[0] : orders);
    }

    private void round() {
        s.promise(25);
        s.says("In how many DAYS (1 .. 60) BOATS first stand in the order in which they stand now, "
            + "if nothing else is done: how many");
        BumpsRiver still = Check.with("90;10");
        s.due("none touch", still.round(), 1);
        s.due("one boat", Check.with("11").round(), 1);
        s.due("without boats", new BumpsRiver().round(), 1);
        BumpsRiver two = Check.with("10;10", "i*20");
        s.due("there and back", two.round(), 2);
        roundIs("92;91;76;79;57;11", "p*(n<x)+i-x/2", 28, 23, 60);

        s.says("the ROW: how many different orders there are from now till then.");
        s.both("none touch", still, still.round(), 1, 1);
        s.both("there and back", two, two.round(), 2, 2);
        Check.ruled(two, "(n=0)*i*20");
        s.both("there for a week", two, two.round(), 8, 2);
        BumpsRiver three = Check.with("10;10;10", "(n/2*2=n)*(i=1)*20+(n/2*2<n)*(i>1)*20");
        s.both("all six orders", three, three.round(), 6, 6);
        BumpsRiver none = new BumpsRiver();
        s.both("without boats", none, none.round(), 1, 1);

        s.says("-2: in none of these.");
        s.due("never", Check.with("10;50").round(), -2);
        roundIs("96;81;81;67;99;97", "p*(n<x)+i-x/2", 26, 14, -2);
        roundIs("19;61;75;62;12;27", "p+(x*n+i)*7/5-x*2", 10, 37, -2);
        // on each of these 60 days they stand in another order
        roundIs("62;78;78;92;80;95", "(p*n+x*i*3+n*n)/7", 11, 6, -2);
        BumpsRiver first = river("96;81;81;67;99;97", "p*(n<x)+i-x/2", 26, 14);
        String now = Check.order(first);
        first.days(60);
        first.days(1);
        s.due("in 61", Check.order(first), now);
    }
}
