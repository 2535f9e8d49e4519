/** Promises 9 to 16: days, what is done, weeks, and what is undone. */
public final class DaysTest {
    private static final Check CHECK = new Check("days");
    /** Boats on odd places touch the one ahead in the first stroke. */
    private static final String ODD_ONES_TOUCH = "(i/2*2<i)*20";

    public static void main(String[] args) {
        days();
        tired();
        touches();
        scratches();
        rests();
        paces();
        gapAndStrokes();
        week();
        weekFaults();
        undo();
        CHECK.finish();
    }

    private static void days() {
        // boat 1 touches boat 0 on the first day, boat 2 boat 0 on the second one
        BumpsRiver river = Check.with("30;50;40");
        CHECK.both("days(0)", river, river.days(0), 0, 0);
        CHECK.due("days(0) can be undone", river.count(8), 1);
        CHECK.both("days(1)", river, river.days(1), 1, 1);
        CHECK.due("order", Check.order(river), "102");
        CHECK.due("TIRED", river.boat(0, 1) + " " + river.boat(1, 1) + " " + river.boat(2, 1), "0 0 1");
        CHECK.due("DAY", river.count(3), 1);
        CHECK.due("TOUCHES", river.count(4), 1);
        CHECK.both("days(1) again", river, river.days(1), 1, 1);
        CHECK.due("order", Check.order(river), "120");
        CHECK.due("TIRED", river.boat(0, 1) + " " + river.boat(1, 1) + " " + river.boat(2, 1), "0 1 0");
        CHECK.due("TOUCHES", river.count(4), 2);
        CHECK.due("days(61)", river.days(61), -2);
        CHECK.due("days(-1)", river.days(-1), -2);
        CHECK.row("refused: the row stays", river, 1);
        CHECK.due("refused: no more to undo", river.count(8), 3);
        CHECK.due("refused: DAY", river.count(3), 2);

        BumpsRiver both = Check.with("30;50;40");
        CHECK.both("two days at once", both, both.days(2), 1, 2);
        CHECK.due("order", Check.order(both), "120");

        BumpsRiver none = new BumpsRiver();
        CHECK.both("days without boats", none, none.days(60), -1, 0);
        CHECK.due("DAY without boats", none.count(3), 60);
        CHECK.due("to undo without boats", none.count(8), 1);
    }

    private static void tired() {
        BumpsRiver river = Check.with("98;10");
        river.days(1);
        CHECK.due("TIRED 1 more", river.boat(0, 1), 9);
        river.days(3);
        CHECK.due("TIRED 9 at most", river.boat(0, 1), 9);
        CHECK.due("TIRED of the other", river.boat(1, 1), 4);
        Check.rule(river, ODD_ONES_TOUCH);
        river.days(3);
        CHECK.due("TIRED 1 less", river.boat(0, 1) + " " + river.boat(1, 1), "6 1");
        river.days(3);
        CHECK.due("TIRED 0 at least", river.boat(0, 1) + " " + river.boat(1, 1), "3 0");
    }

    private static void touches() {
        BumpsRiver river = Check.with("10;10;10;10;10;10");
        Check.rule(river, ODD_ONES_TOUCH);
        river.days(1);
        CHECK.due("three pairs change", Check.order(river), "103254");
        CHECK.due("three TOUCHES", river.count(4), 3);
        for (int i = 0; i < 55; i++) {
            river.days(60);
            CHECK.row("days(60)", river, 180);
        }
        CHECK.due("TOUCHES", river.count(4), 9903);
        river.days(60);
        CHECK.row("days(60), TOUCHES aside", river, 180);
        CHECK.due("TOUCHES at most", river.count(4), 9999);
        river.later(0, 2);
        CHECK.row("later, TOUCHES whole", river, 0, 6);
        CHECK.due("DAY", river.count(3), 3361);
        river.undo();
        CHECK.due("TOUCHES undone", river.count(4), 9903);
    }

    private static void scratches() {
        BumpsRiver river = Check.with("30;50;40;20");
        CHECK.due("scratches(1)", river.scratches(1), 1);
        CHECK.due("order", Check.order(river), "0231");
        CHECK.due("scratches(1), the last", river.scratches(1), -2);
        CHECK.due("scratches(0)", river.scratches(0), 0);
        CHECK.due("order", Check.order(river), "2310");
        CHECK.due("scratches(1), last but one", river.scratches(1), 2);
        CHECK.due("order", Check.order(river), "2301");
        CHECK.due("scratches(4)", river.scratches(4), -1);
        CHECK.due("scratches(-1)", river.scratches(-1), -1);
        CHECK.due("to undo", river.count(8), 3);
        CHECK.due("no row was told", river.count(9), 0);
        BumpsRiver one = Check.with("30");
        CHECK.due("scratches, the only one", one.scratches(0), -2);
    }

    private static void rests() {
        BumpsRiver river = Check.with("37;50");
        CHECK.due("rests(0)", river.rests(0), 7);
        CHECK.due("TIRED then", river.boat(0, 1), 0);
        CHECK.due("rests(0) again", river.rests(0), -2);
        CHECK.due("rests(1)", river.rests(1), -2);
        CHECK.due("rests(2)", river.rests(2), -1);
        CHECK.due("rests(-1)", river.rests(-1), -1);
        CHECK.due("to undo", river.count(8), 1);
    }

    private static void paces() {
        BumpsRiver river = Check.with("37;50");
        CHECK.due("paces(0, 9)", river.paces(0, 9), 3);
        CHECK.due("PACE then", river.boat(0, 0), 9);
        CHECK.due("paces(0, 9) again", river.paces(0, 9), -2);
        CHECK.due("paces(0, 1)", river.paces(0, 1), 9);
        CHECK.due("paces(0, 0)", river.paces(0, 0), -1);
        CHECK.due("paces(0, 10)", river.paces(0, 10), -1);
        CHECK.due("paces(2, 5)", river.paces(2, 5), -1);
        CHECK.due("paces(-1, 5)", river.paces(-1, 5), -1);
        CHECK.due("PACE at last", river.boat(0, 0), 1);
        CHECK.due("to undo", river.count(8), 2);
    }

    private static void gapAndStrokes() {
        BumpsRiver river = new BumpsRiver();
        CHECK.due("gap(30)", river.gap(30), 9);
        CHECK.due("gap(1)", river.gap(1), 30);
        CHECK.due("gap(1) again", river.gap(1), -2);
        CHECK.due("gap(0)", river.gap(0), -1);
        CHECK.due("gap(31)", river.gap(31), -1);
        CHECK.due("GAP", river.count(1), 1);
        CHECK.due("strokes(40)", river.strokes(40), 20);
        CHECK.due("strokes(1)", river.strokes(1), 40);
        CHECK.due("strokes(1) again", river.strokes(1), -2);
        CHECK.due("strokes(0)", river.strokes(0), -1);
        CHECK.due("strokes(41)", river.strokes(41), -1);
        CHECK.due("STROKES", river.count(2), 1);
        CHECK.due("to undo", river.count(8), 4);
    }

    private static void week() {
        BumpsRiver river = Check.with("30;50;40");
        CHECK.both("a week", river, Check.week(river, "n1s0r2p05g05k07"), 6, 0, 1);
        CHECK.due("order", Check.order(river), "120");
        CHECK.due("TIRED", river.boat(2, 1), 0);
        CHECK.due("PACE", river.boat(0, 0), 5);
        CHECK.due("GAP", river.count(1), 5);
        CHECK.due("STROKES", river.count(2), 7);
        CHECK.due("one to undo", river.count(8), 1);
        CHECK.due("the text is empty", river.count(10), 0);
        CHECK.due("undo", river.undo(), 0);
        CHECK.due("order, undone", Check.order(river), "012");
        CHECK.due("the rest, undone", river.count(1) + " " + river.count(2) + " " + river.count(3) + " "
            + river.count(4) + " " + river.boat(0, 0), "9 20 0 0 3");

        CHECK.both("the head scratches", river, Check.week(river, "s0"), 1, 0, 0);
        river.undo();
        CHECK.both("one refused", river, Check.week(river, "n2s9n1"), 1, 1, 2);
        CHECK.due("what was done can be undone", river.count(8), 1);
        CHECK.both("first one refused", river, Check.week(river, "g00n1"), 0, 1, 2);
        CHECK.both("-2 is refused, too", river, Check.week(river, "g09"), 0, 1, 2);
        CHECK.both("strokes refused", river, Check.week(river, "k41"), 0, 1, 2);
        CHECK.both("rests refused", river, Check.week(river, "r0"), 0, 1, 2);
        CHECK.both("paces refused", river, Check.week(river, "p31"), 0, 1, 2);
        CHECK.due("none of these can be undone", river.count(8), 1);
        CHECK.both("empty", river, Check.week(river, ""), 0, 0, 2);
        CHECK.due("an empty one is no act", river.count(8), 1);
        CHECK.both("n0", river, Check.week(river, "n0"), 1, 0, 2);
        CHECK.due("n0 was done", river.count(8), 2);
        BumpsRiver none = new BumpsRiver();
        CHECK.both("days are never refused", none, Check.week(none, "n1n2"), 2, 0, 3);
    }

    private static void weekFault(String text, int want) {
        BumpsRiver river = Check.with("30;50;40");
        CHECK.due("week(" + text + ")", Check.week(river, text), want);
        CHECK.due("week(" + text + "): nothing is done", river.count(3) + river.count(8) + river.count(9), 0);
        CHECK.due("week(" + text + "): the text is empty", river.count(10), 0);
    }

    private static void weekFaults() {
        String sixty = new String(new char[30]).replace("\0", "n0");
        weekFault("n", -2);
        weekFault("x1", -1);
        weekFault("1", -1);
        weekFault("nn", -2);
        weekFault("n1z", -3);
        weekFault("n11", -3);
        weekFault("n1n", -4);
        weekFault("s;", -2);
        weekFault("r", -2);
        weekFault("p", -2);
        weekFault("p0", -3);
        weekFault("p00", -3);
        weekFault("p0n", -3);
        weekFault("g0", -3);
        weekFault("gx", -2);
        weekFault("k1k", -3);
        weekFault("n1n1g1", -7);
        weekFault(sixty + "n0", -61);
        weekFault(sixty + "z", -61);
        weekFault(sixty.substring(2) + "g1", -61);
        weekFault(sixty.substring(2) + "g12", -61);
        weekFault("z" + sixty + "n0", -1);
        BumpsRiver river = Check.with("30");
        CHECK.both("sixty signs", river, Check.week(river, sixty), 30, 0, 0);
    }

    private static void undo() {
        BumpsRiver river = Check.with("35;50;40");
        CHECK.due("undo, none", river.undo(), -1);
        river.days(2);
        river.scratches(1);
        river.rests(0);
        river.paces(1, 9);
        river.gap(3);
        river.strokes(3);
        Check.rule(river, "p");
        river.heard(0, 1);
        CHECK.due("undo strokes", river.undo() + " " + river.count(2), "5 20");
        CHECK.due("undo gap", river.undo() + " " + river.count(1), "4 9");
        CHECK.due("undo paces", river.undo() + " " + river.boat(1, 0), "3 5");
        int rested = river.boat(0, 1);
        CHECK.due("undo rests", river.undo() + " " + rested + " " + river.boat(0, 1), "2 0 3");
        CHECK.due("undo scratches", river.undo() + " " + Check.order(river), "1 120");
        river.sheet(3, 0, 0, 0);
        CHECK.due("undo days", river.undo() + " " + Check.order(river) + " " + river.count(3) + river.count(4)
            + " " + river.count(5) + " " + river.count(6), "0 012 00 12 5");
        CHECK.due("undo, none left", river.undo(), -1);
        CHECK.due("what was heard stays", river.count(7), 1);
        CHECK.due("the rule stays", river.lies(0, 1), 1003);

        for (int v = 10; v <= 30; v++) {
            river.gap(v);
        }
        CHECK.due("fifteen at most", river.count(8), 15);
        for (int left = 14; left >= 0; left--) {
            CHECK.due("undo to " + left, river.undo() + " " + river.count(1), left + " " + (15 + left));
        }
        CHECK.due("the sixteenth is forgotten", river.undo() + " " + river.count(1), "-1 15");
    }
}
