/** Promises 9 to 16: days, what is done, weeks, and what is undone. */
final class EdgesOfDays {
    private static final String THREE = "30;50;40";

    private final Sentences s;

    EdgesOfDays(Sentences s) {
        this.s = s;
    }

    void check() {
        days();
        scratches();
        rests();
        paces();
        gap();
        strokes();
        week();
        weekTexts();
        undo();
    }

    private void days() {
        s.promise(9);
        s.says("n DAYS (0 .. 60): the BOAT at the head then");
        BumpsRiver river = Check.with(THREE);
        s.due("days(0)", river.days(0), 0);
        s.due("DAY", river.count(3), 0);
        s.due("days(1)", river.days(1), 1);
        s.due("DAY then", river.count(3), 1);
        s.due("days(60)", river.days(60), 1);
        s.due("DAY at last", river.count(3), 61);

        s.says("(NONE: there are no BOATS)");
        BumpsRiver none = new BumpsRiver();
        s.due("days(0)", none.days(0), -1);
        s.due("days(60)", none.days(60), -1);
        s.row("pairs", none, 0);
        s.due("they come all the same", none.count(3), 60);
        s.due("and can be undone", none.undo() + " " + none.count(3), "1 0");

        s.says("the ROW: pairs that TOUCHED in these (TOUCHES aside).");
        BumpsRiver six = Check.with("10;10;10;10;10;10", EdgesOfTerms.ODD_ONES_TOUCH);
        six.days(0);
        s.row("days(0)", six, 0);
        six.days(2);
        s.row("days(2)", six, 6);
        for (int i = 0; i < 57; i++) {
            six.days(60);
        }
        s.due("TOUCHES are at their most", six.count(4), 9999);
        six.days(60);
        s.row("days(60) then", six, 180);

        s.says("-2: another n (refused).");
        river = Check.with(THREE);
        river.days(1);
        String before = Check.whole(river);
        int[] others = {-1, 61, Integer.MIN_VALUE, Integer.MAX_VALUE};
        for (int n : others) {
            s.due("days(" + n + ")", river.days(n), -2);
            s.same("days(" + n + ")", river, before);
        }
        s.due("without boats", new BumpsRiver().days(61), -2);
    }

    private void scratches() {
        s.promise(10);
        s.says("A BOAT scratches: it is the last one from then on, all behind it go one up: the PLACE that it had.");
        BumpsRiver six = Check.first(6);
        s.due("the head", six.scratches(0), 0);
        s.due("they stand", Check.order(six), "123450");
        s.due("the one in the middle", six.scratches(3), 2);
        s.due("they stand then", Check.order(six), "124503");
        s.due("the last but one", six.scratches(0), 4);
        s.due("they stand at last", Check.order(six), "124530");
        s.due("places go with them", six.boat(0, 2) + " " + six.boat(3, 2) + " " + six.boat(5, 2), "5 4 3");

        s.says("-2: it is the last one");
        String before = Check.whole(six);
        s.due("the last of six", six.scratches(0), -2);
        s.same("the last of six", six, before);
        s.due("the only one", Check.with("11").scratches(0), -2);

        s.says("NONE: none such.");
        s.due("6 of six", six.scratches(6), -1);
        s.due("1 of one", Check.with("11").scratches(1), -1);
        s.due("-1", six.scratches(-1), -1);
        s.due("min", six.scratches(Integer.MIN_VALUE), -1);
        s.due("max", six.scratches(Integer.MAX_VALUE), -1);
        s.due("0 of none", new BumpsRiver().scratches(0), -1);
        s.same("none such", six, before);
    }

    private void rests() {
        s.promise(11);
        s.says("A BOAT is rested: TIRED (0 then) that it had.");
        BumpsRiver river = Check.with("31;59;40");
        s.due("1", river.rests(0), 1);
        s.due("9", river.rests(1), 9);
        s.due("TIRED of all then", river.count(6), 0);
        s.due("to undo", river.count(8), 2);

        s.says("-2: it is 0");
        String before = Check.whole(river);
        s.due("one that never was tired", river.rests(2), -2);
        s.due("one that was rested", river.rests(1), -2);
        s.same("it is 0", river, before);

        s.says("NONE: none such.");
        s.due("3 of three", river.rests(3), -1);
        s.due("-1", river.rests(-1), -1);
        s.due("min", river.rests(Integer.MIN_VALUE), -1);
        s.due("max", river.rests(Integer.MAX_VALUE), -1);
        s.due("0 of none", new BumpsRiver().rests(0), -1);
        s.same("none such", river, before);
    }

    private void paces() {
        s.promise(12);
        s.says("PACE of a BOAT becomes v (1 .. 9): what it was.");
        BumpsRiver river = Check.with("31;59;40");
        s.due("1", river.paces(0, 1), 3);
        s.due("9", river.paces(0, 9), 1);
        s.due("9 of another one", river.paces(2, 9), 4);
        s.due("PACES", river.boat(0, 0) + " " + river.boat(1, 0) + " " + river.boat(2, 0), "9 5 9");
        s.due("to undo", river.count(8), 3);

        s.says("-2: it is so");
        String before = Check.whole(river);
        s.due("9 again", river.paces(0, 9), -2);
        s.due("5", river.paces(1, 5), -2);
        s.same("it is so", river, before);

        s.says("NONE: others.");
        int[][] others = {{0, 0}, {0, 10}, {0, -1}, {0, Integer.MIN_VALUE}, {0, Integer.MAX_VALUE}, {3, 5}, {-1, 5},
            {Integer.MIN_VALUE, 5}, {Integer.MAX_VALUE, 5}, {3, 0}};
        for (int[] each : others) {
            s.due("paces(" + each[0] + ", " + each[1] + ")", river.paces(each[0], each[1]), -1);
        }
        s.due("0 of none", new BumpsRiver().paces(0, 5), -1);
        s.same("others", river, before);
    }

    private void gap() {
        s.promise(13);
        s.says("GAP becomes v (1 .. 30): what it was.");
        BumpsRiver river = Check.with(THREE);
        s.due("1", river.gap(1), 9);
        s.due("30", river.gap(30), 1);
        s.due("GAP", river.count(1), 30);
        s.due("it counts", river.lies(2, 0), 940);
        s.due("to undo", river.count(8), 2);

        s.says("-2: it is so");
        String before = Check.whole(river);
        s.due("30 again", river.gap(30), -2);
        s.same("it is so", river, before);
        s.due("9 at first", new BumpsRiver().gap(9), -2);

        s.says("NONE: others.");
        int[] others = {0, 31, -1, Integer.MIN_VALUE, Integer.MAX_VALUE};
        for (int v : others) {
            s.due("gap(" + v + ")", river.gap(v), -1);
        }
        s.same("others", river, before);
    }

    private void strokes() {
        s.promise(14);
        s.says("STROKES become v (1 .. 40): what they were.");
        BumpsRiver river = Check.with(THREE);
        s.due("4", river.strokes(4), 20);
        s.due("too few to touch", river.race(), 0);
        s.due("5", river.strokes(5), 4);
        s.due("just enough", river.race(), 1);
        s.due("1", river.strokes(1), 5);
        s.due("40", river.strokes(40), 1);
        s.due("STROKES", river.count(2), 40);
        s.due("to undo", river.count(8), 4);

        s.says("-2: they are so");
        String before = Check.whole(river);
        s.due("40 again", river.strokes(40), -2);
        s.same("they are so", river, before);
        s.due("20 at first", new BumpsRiver().strokes(20), -2);

        s.says("NONE: others.");
        int[] others = {0, 41, -1, Integer.MIN_VALUE, Integer.MAX_VALUE};
        for (int v : others) {
            s.due("strokes(" + v + ")", river.strokes(v), -1);
        }
        s.same("others", river, before);
    }

    private void weekOf(String text, int want, int refused, int day, String state) {
        BumpsRiver river = Check.with("31;52;40");
        s.both(text, river, Check.week(river, text), want, refused, day);
        s.due(text + ": what comes of it", river.count(1) + " " + river.count(2) + " " + river.count(5) + " "
            + river.count(6) + " " + Check.order(river), state);
        s.due(text + ": to undo", river.count(8), want > 0 ? 1 : 0);
        s.due(text + ": signs", river.count(10), 0);
    }

    private void week() {
        String first = "9 20 12 3 012";
        s.promise(15);
        s.says("THE TEXT tells A WEEK (an empty one: nothing)");
        weekOf("", 0, 0, 0, first);

        s.says("signs one behind another: n and a digit (days())");
        weekOf("n0", 1, 0, 0, first);
        weekOf("n1", 1, 0, 1, "9 20 12 2 102");
        BumpsRiver nine = Check.with("31;52;40");
        s.both("n9", nine, Check.week(nine, "n9"), 1, 0, 9);
        s.both("n9n9", nine, Check.week(nine, "n9n9"), 2, 0, 27);

        s.says("s and a digit (scratches())");
        weekOf("s0", 1, 0, 0, "9 20 12 3 120");
        weekOf("s1", 1, 0, 0, "9 20 12 3 021");

        s.says("r and a digit (rests())");
        weekOf("r0", 1, 0, 0, "9 20 12 2 012");
        weekOf("r1", 1, 0, 0, "9 20 12 1 012");

        s.says("p, a digit and a digit 1 .. 9 (paces())");
        weekOf("p01", 1, 0, 0, "9 20 10 3 012");
        weekOf("p29", 1, 0, 0, "9 20 17 3 012");

        s.says("g and two digits (gap())");
        weekOf("g01", 1, 0, 0, "1 20 12 3 012");
        weekOf("g30", 1, 0, 0, "30 20 12 3 012");
        weekOf("g10", 1, 0, 0, "10 20 12 3 012");

        s.says("k and two digits (strokes())");
        weekOf("k01", 1, 0, 0, "9 1 12 3 012");
        weekOf("k40", 1, 0, 0, "9 40 12 3 012");
        weekOf("k12", 1, 0, 0, "9 12 12 3 012");

        s.says("they are done one by one, till one is refused (an act that answers below 0; days() never is): "
            + "how many were done");
        weekOf("s0r0r1p01g10k12", 6, 0, 0, "10 12 10 0 120");
        weekOf("g10s9k12", 1, 1, 0, "10 20 12 3 012");
        weekOf("s3", 0, 1, 0, first);
        weekOf("s2", 0, 1, 0, first);
        weekOf("r3", 0, 1, 0, first);
        weekOf("r2", 0, 1, 0, first);
        weekOf("p31", 0, 1, 0, first);
        weekOf("p03", 0, 1, 0, first);
        weekOf("g00", 0, 1, 0, first);
        weekOf("g31", 0, 1, 0, first);
        weekOf("g99", 0, 1, 0, first);
        weekOf("g09", 0, 1, 0, first);
        weekOf("k00", 0, 1, 0, first);
        weekOf("k41", 0, 1, 0, first);
        weekOf("k99", 0, 1, 0, first);
        weekOf("k20", 0, 1, 0, first);
        weekOf("r0r0", 1, 1, 0, "9 20 12 2 012");
        BumpsRiver none = new BumpsRiver();
        s.both("days without boats", none, Check.week(none, "n1n0n2"), 3, 0, 3);
        s.both("no boat scratches", none, Check.week(none, "n1s0n2"), 1, 1, 4);

        s.says("the ROW: 1 if one was refused, else 0; DAY then.");
        weekOf("n2g09", 1, 1, 2, "9 20 12 2 120");
        weekOf("n2g08", 2, 0, 2, "8 20 12 2 120");
        weekOf("g09n2", 0, 1, 0, first);
    }

    private void weekFault(String text, int want) {
        BumpsRiver river = Check.with("31;52;40");
        river.race();
        String before = Check.whole(river);
        s.due(text, Check.week(river, text), want);
        s.same(text, river, before);
    }

    private void weekTexts() {
        String sixty = Check.times("n0", 30);
        s.says("-1 - p: the sign at p can't stand there");
        weekFault("x", -1);
        weekFault("N1", -1);
        weekFault("1", -1);
        weekFault(";", -1);
        weekFault("nn", -2);
        weekFault("n:", -2);
        weekFault("n/", -2);
        weekFault("s-", -2);
        weekFault("rr", -2);
        weekFault("px1", -2);
        weekFault("p0x", -3);
        weekFault("p00", -3);
        weekFault("gx1", -2);
        weekFault("g1x", -3);
        weekFault("kx", -2);
        weekFault("k1x", -3);
        weekFault("n11", -3);
        weekFault("n1;n1", -3);
        weekFault("n1n1p10", -7);
        weekFault("g011", -4);
        weekFault((char) 0 + "", -1);
        weekFault("n" + (char) 178, -2);
        weekFault(sixty.substring(1) + "z", -1);
        weekFault(sixty.substring(0, 59) + "z", -60);

        s.says("its end, if it ends too early");
        weekFault("n", -2);
        weekFault("s", -2);
        weekFault("r", -2);
        weekFault("p", -2);
        weekFault("p1", -3);
        weekFault("g", -2);
        weekFault("g1", -3);
        weekFault("k", -2);
        weekFault("k1", -3);
        weekFault("n1n", -4);
        weekFault(sixty.substring(2) + "g1", -61);
        weekFault(sixty.substring(0, 57) + "0p1", -61);
        BumpsRiver cut = Check.with(THREE);
        Check.say(cut, "n1g12");
        cut.end(4);
        s.due("a sign behind the end does not count", cut.week(), -5);

        s.says("60, if it has more and the first 60 could go on or end");
        BumpsRiver river = Check.with(THREE);
        s.both("just sixty", river, Check.week(river, sixty), 30, 0, 0);
        s.both("sixty of threes", river, Check.week(river, Check.times("g08g09", 10)), 20, 0, 0);
        weekFault(sixty + "n", -61);
        weekFault(sixty + "n0", -61);
        weekFault(sixty + "z", -61);
        weekFault(Check.times("n0", 40), -61);
        weekFault(sixty.substring(2) + "g12", -61);
        weekFault(sixty.substring(3) + "g120", -1);
        weekFault("g12" + sixty.substring(2, 58) + "n0", -61);
        weekFault(sixty.substring(2) + "gzz", -60);

        s.says("nothing is done then.");
        weekFault("n1s0r0p01g10k1", -15);
        weekFault("n1s9z", -5);
    }

    private void undone(String call, BumpsRiver river, int answer, int left, String before) {
        s.due(call + " was done", answer >= 0, true);
        s.due("undo() of " + call, river.undo(), left);
        s.due("undo() of " + call + ": it is as ahead of it", Check.state(river), before);
    }

    /** A sheet is no act, so the next act that is undone leaves it: the state then. */
    private static String otherPaces(BumpsRiver river, int v) {
        river.sheet(2, 6, v, 0);
        return Check.state(river);
    }

    private void undo() {
        s.promise(16);
        s.says("The latest days(), scratches(), rests(), paces(), gap(), strokes() or week()");
        BumpsRiver river = Check.with("39;52;40");
        String state = Check.state(river);
        undone("days", river, river.days(3), 0, state);
        state = otherPaces(river, 1);
        undone("scratches", river, river.scratches(0), 0, state);
        state = otherPaces(river, 2);
        undone("rests", river, river.rests(0), 0, state);
        state = otherPaces(river, 3);
        undone("paces", river, river.paces(0, 9), 0, state);
        state = otherPaces(river, 4);
        undone("gap", river, river.gap(10), 0, state);
        state = otherPaces(river, 5);
        undone("strokes", river, river.strokes(30), 0, state);
        state = otherPaces(river, 6);
        undone("week", river, Check.week(river, "n3s0r1p11g12k13n2"), 0, state);

        s.says("(of 15 that are kept, the latest ones");
        for (int v = 10; v <= 24; v++) {
            river.gap(v);
        }
        s.due("fifteen", river.count(8), 15);
        river.gap(25);
        s.due("sixteen", river.count(8), 15);
        for (int left = 14; left >= 0; left--) {
            s.due("undo() to " + left, river.undo() + " " + river.count(1), left + " " + (left + 10));
        }
        s.due("the first one can't be", river.undo() + " " + river.count(1), "-1 10");

        s.says("such as were done;");
        river.scratches(river.at(2));
        river.rests(2);
        river.paces(0, river.boat(0, 0));
        river.paces(0, 10);
        river.gap(10);
        river.gap(31);
        river.strokes(20);
        river.days(61);
        s.due("such as were not", river.count(8), 0);

        s.says("week() of which one act was done, as one) is undone");
        Check.week(river, "g10n1");
        Check.week(river, "n1x");
        Check.week(river, "");
        s.due("weeks of none", river.count(8), 0);
        Check.week(river, "g11g11");
        s.due("a week of one", river.count(8), 1);
        Check.week(river, "g12k12s0r1n9");
        s.due("a week of five", river.count(8), 2);
        s.due("as one", river.undo() + " " + river.count(1) + " " + river.count(3), "1 11 0");
        s.due("the other one", river.undo() + " " + river.count(1), "0 10");

        s.says("(PACES, TIRED, PLACES, GAP, STROKES, DAY, TOUCHES are as ahead of it)");
        river.heard(0, 1);
        river.sign(0x30303030);
        river.race();
        String row = Check.rowOf(river);
        state = Check.state(river);
        river.strokes(30);
        river.sheet(2, 3, 9, 0);
        s.due("undo()", river.undo(), 0);
        s.due("what it brings back", Check.state(river), state);
        s.due("what stays", river.count(7) + " " + river.count(10) + " " + Check.rowOf(river), "1 4 " + row);
        Check.ruled(river, "7");
        river.gap(3);
        Check.ruled(river, "8");
        river.undo();
        s.due("the rule stays", river.lies(0, 1), 1008);

        s.says("how many are left that can be.");
        river.gap(5);
        river.gap(6);
        river.gap(7);
        s.due("of three", river.undo(), 2);
        s.due("of two", river.undo(), 1);
        s.due("of one", river.undo(), 0);

        s.says("Refused: none.");
        state = Check.whole(river);
        s.due("undo()", river.undo(), -1);
        s.same("undo()", river, state);
        s.due("of a new object", new BumpsRiver().undo(), -1);

        s.says("(boats() and again() forget them, if they are not refused; an empty boats() does not.)");
        river.gap(5);
        Check.boats(river, "");
        s.due("an empty boats()", river.count(8), 1);
        Check.boats(river, "1");
        s.due("a wrong boats()", river.count(8), 1);
        Check.boats(river, "11;22;33;44");
        s.due("boats() without room", river.count(8), 1);
        river.again(0);
        s.due("again() of nothing", river.count(8), 1);
        river.again(3);
        s.due("again(3)", river.count(8), 1);
        river.keep(0);
        s.due("keep()", river.count(8), 1);
        river.again(0);
        s.due("again()", river.count(8) + " " + river.undo(), "0 -1");
        river.gap(6);
        Check.boats(river, "11");
        s.due("boats()", river.count(8) + " " + river.undo() + " " + river.count(1), "0 -1 6");
    }
}
