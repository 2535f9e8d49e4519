/** Promises 45 to 48: what is kept, counted and told, and that calls never throw but as promised. */
public final class KeptTest {
    private static final Check CHECK = new Check("kept");
    private static final int[] ODD = {Integer.MIN_VALUE, -61, -7, -2, -1, 0, 1, 2, 3, 5, 6, 7, 9, 10, 12, 20, 21,
        30, 31, 40, 41, 60, 61, 80, 81, 255, Integer.MAX_VALUE};

    public static void main(String[] args) {
        keepAndAgain();
        count();
        row();
        oddArguments();
        CHECK.finish();
    }

    private static void keepAndAgain() {
        BumpsRiver river = Check.with("31;50;40");
        CHECK.due("again(0), nothing kept", river.again(0), false);
        String first = Check.state(river);
        CHECK.due("keep(0)", river.keep(0), true);
        Check.week(river, "n3s1r2p27g05k30n2");
        String then = Check.state(river);
        CHECK.due("keep(2)", river.keep(2), true);
        CHECK.due("keep(3)", river.keep(3), false);
        CHECK.due("keep(-1)", river.keep(-1), false);
        CHECK.due("again(1)", river.again(1), false);
        CHECK.due("again(3)", river.again(3), false);
        CHECK.due("again(-1)", river.again(-1), false);
        CHECK.due("refused: can be undone", river.count(8), 1);
        CHECK.due("again(0)", river.again(0), true);
        CHECK.due("as it was", Check.state(river), first);
        CHECK.due("none can be undone", river.count(8), 0);
        CHECK.due("again(2)", river.again(2), true);
        CHECK.due("as it was then", Check.state(river), then);
        river.days(3);
        CHECK.due("again(2), once more", river.again(2), true);
        CHECK.due("as it was then", Check.state(river), then);
        river.keep(0);
        river.gap(6);
        river.again(0);
        CHECK.due("kept anew", Check.state(river), then);
        Check.boats(river, "");
        CHECK.due("no boats came", river.again(0), true);
        Check.boats(river, "5");
        CHECK.due("a wrong text of boats", river.again(0), true);
        river.gap(6);
        Check.boats(river, "55");
        CHECK.due("boats came since", river.again(0) || river.again(2), false);
        CHECK.due("refused: all stays", river.count(1), 6);
        CHECK.due("keep behind them", river.keep(2), true);
        CHECK.due("again(0), kept ahead of them", river.again(0), false);
        CHECK.due("again(2), kept behind them", river.again(2), true);
        BumpsRiver none = new BumpsRiver();
        none.keep(1);
        none.days(5);
        CHECK.due("without boats", none.again(1), true);
        CHECK.due("DAY then", none.count(3), 0);
    }

    private static void count() {
        BumpsRiver river = Check.with("31;52;43");
        river.days(1);
        river.gap(4);
        river.strokes(6);
        river.heard(0, 1);
        river.sign(0);
        river.over();
        int[] want = {3, 4, 6, 1, 1, 12, 5, 1, 3, 2, 4};
        for (int what = 0; what < want.length; what++) {
            CHECK.due("count(" + what + ")", river.count(what), want[what]);
        }
        CHECK.due("count(11)", river.count(11), -100);
        CHECK.due("count(-1)", river.count(-1), -100);
    }

    private static void row() {
        BumpsRiver river = Check.with("30;50;40");
        CHECK.due("row(0), none told", Check.row(river, 0), Check.THROWN);
        river.race();
        CHECK.due("row(0)", Check.row(river, 0), 5L);
        CHECK.due("row(2)", Check.row(river, 2), 0L);
        CHECK.due("row(3)", Check.row(river, 3), Check.THROWN);
        CHECK.due("row(-1)", Check.row(river, -1), Check.THROWN);
        CHECK.due("row(max)", Check.row(river, Integer.MAX_VALUE), Check.THROWN);
        river.gap(5);
        river.boat(0, 4);
        river.heard(0, 1);
        river.pulls(5, 2);
        river.keep(0);
        river.again(0);
        CHECK.row("calls that tell no row", river, 5, 1, 0);
        river.head(0);
        CHECK.row("a row of one takes its place", river, -1);
    }

    /** Any numbers in any state: an answer, or the exception that is promised. */
    private static void oddArguments() {
        String[] boats = {"", "19", "90;18;27;36;45;54"};
        for (String each : boats) {
            BumpsRiver river = Check.with(each);
            for (int a : ODD) {
                for (int b : ODD) {
                    Check.boat(river, a, b);
                    river.lies(a, b);
                    river.later(a, b);
                    river.bumps(a, b);
                    river.best(a, b);
                    river.differ(a, b);
                    river.helps(a, b);
                    river.heard(a, b);
                    river.likely(a, b);
                    river.pulls(a, b);
                    river.years(a, b);
                    river.paces(a, b);
                    river.sheet(a, b, a, b);
                    river.sheet(b, 6, a, b);
                }
                one(river, a);
            }
        }
        CHECK.due("odd arguments", true, true);
    }

    private static void one(BumpsRiver river, int a) {
        Check.at(river, a);
        Check.row(river, a);
        river.sign(a);
        river.end(a);
        river.days(a);
        river.scratches(a);
        river.rests(a);
        river.gap(a);
        river.strokes(a);
        river.closest(a);
        river.head(a);
        river.blades(a);
        river.orders(a);
        river.spurs(a);
        river.crews(a);
        river.count(a);
        river.keep(a);
        river.again(a);
        river.undo();
        river.forget();
    }
}
