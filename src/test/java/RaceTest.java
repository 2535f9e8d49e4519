/** Promises 17 to 25: a race, and what comes later. */
public final class RaceTest {
    private static final Check CHECK = new Check("race");
    private static final String ODD_ONES_TOUCH = "(i/2*2<i)*20";

    public static void main(String[] args) {
        race();
        lies();
        over();
        closest();
        later();
        head();
        bumps();
        blades();
        round();
        sixtyDays();
        CHECK.finish();
    }

    private static void race() {
        BumpsRiver river = Check.with("30;50;40");
        CHECK.both("one pair", river, river.race(), 1, 5, 1, 0);
        CHECK.both("a question changes nothing", river, river.race(), 1, 5, 1, 0);
        river.strokes(4);
        CHECK.both("too few strokes", river, river.race(), 0);
        river.strokes(5);
        CHECK.both("just enough", river, river.race(), 1, 5, 1, 0);
        BumpsRiver none = new BumpsRiver();
        none.days(1);
        CHECK.both("without boats", none, none.race(), 0);

        // as far as the one ahead is enough: 9 feet in 3 strokes of 3 feet more
        BumpsRiver equal = Check.with("10;40");
        CHECK.both("as far as it", equal, equal.race(), 1, 3, 1, 0);

        // boat 2 comes as far as boat 1 in stroke 9; then boat 3, behind both, reaches boat 0
        BumpsRiver over = Check.with("20;20;30;30");
        CHECK.both("the two ahead of it are out", over, over.race(), 1, 9, 2, 1);
        over.strokes(40);
        CHECK.both("it reaches the one ahead of both", over, over.race(), 2, 9, 2, 1, 27, 3, 0);

        // all in one stroke, from the head on: boats 1, 2 are ahead of boat 0, and so is boat 3
        BumpsRiver once = Check.with("10;90;90;90");
        once.gap(1);
        CHECK.both("from the head on", once, once.race(), 1, 1, 1, 0);
        Check.rule(once, "i*6");
        CHECK.both("two pairs in a stroke", once, once.race(), 2, 1, 1, 0, 1, 3, 2);
        // boat 2 touches boat 1, at once boat 3 is behind boat 0 and touches it
        Check.rule(once, "(i=0)*9+(i>1)*20");
        CHECK.both("at once", once, once.race(), 2, 1, 2, 1, 1, 3, 0);
        once.days(1);
        CHECK.due("both pairs change", once.at(0) + "" + once.at(1) + once.at(2) + once.at(3), "3210");
    }

    private static void lies() {
        BumpsRiver river = Check.with("30;50;40");
        CHECK.both("lies(0, 0)", river, river.lies(0, 0), 1000, 1);
        CHECK.both("lies(2, 0)", river, river.lies(2, 0), 982, 1);
        CHECK.both("lies(1, 4)", river, river.lies(1, 4), 1011, 1);
        CHECK.both("lies(1, 5)", river, river.lies(1, 5), 1016, 0);
        CHECK.both("lies(1, 6), it stays", river, river.lies(1, 6), 1016, 0);
        CHECK.both("lies(0, 40), it stays", river, river.lies(0, 40), 1015, 0);
        CHECK.both("lies(2, 40), STROKES aside", river, river.lies(2, 40), 1142, 1);
        river.strokes(1);
        CHECK.both("lies(1, 5), STROKES aside", river, river.lies(1, 5), 1016, 0);
        river.gap(30);
        CHECK.both("lies(2, 0), GAP 30", river, river.lies(2, 0), 940, 1);
        CHECK.due("lies(2, 41)", river.lies(2, 41), -1);
        CHECK.due("lies(2, -1)", river.lies(2, -1), -1);
        CHECK.due("lies(3, 0)", river.lies(3, 0), -1);
        CHECK.due("lies(-1, 0)", river.lies(-1, 0), -1);
        CHECK.row("refused: the row stays", river, 1);
        // all go on as it is ahead of the stroke: boat 1 sees boat 0 nine feet ahead, not 14
        BumpsRiver two = Check.with("50;10");
        Check.rule(two, "(i=0)*5+(i>0)*g/3");
        CHECK.due("at once", two.lies(1, 1), 994);
        CHECK.due("at once, again", two.lies(1, 2), 997);
        CHECK.due("by what g is then", two.lies(1, 3), 1001);
        Check.rule(two, "(i>0)*4+(i=0)*b/3");
        CHECK.due("b at first", two.lies(0, 1), 1003);
        CHECK.due("b is less then", two.lies(0, 3), 1007);
    }

    private static void over() {
        BumpsRiver river = Check.with("30;50;40");
        CHECK.both("over", river, river.over(), 4, 2, 1);
        river.gap(30);
        river.strokes(5);
        CHECK.both("none touch", river, river.over(), 7, 0, 0);
        BumpsRiver six = Check.with("10;10;10;10;10;10");
        Check.rule(six, ODD_ONES_TOUCH);
        CHECK.both("all touch", six, six.over(), 0, 42, 21);
        six.days(1);
        CHECK.both("boats, not places", six, six.over(), 0, 21, 42);
        BumpsRiver none = new BumpsRiver();
        CHECK.both("none", none, none.over(), 0, 0, 0);
    }

    private static void closest() {
        BumpsRiver river = Check.with("30;50;40");
        CHECK.both("closest(1)", river, river.closest(1), 1, 4, 0);
        CHECK.both("closest(2)", river, river.closest(2), 9, 0, 1);
        CHECK.due("closest(0)", river.closest(0), -2);
        CHECK.row("never: the row stays", river, 0, 1);
        CHECK.due("closest(3)", river.closest(3), -1);
        CHECK.due("closest(-1)", river.closest(-1), -1);
        river.strokes(2);
        CHECK.both("STROKES 2", river, river.closest(1), 5, 2, 0);
        BumpsRiver like = Check.with("30;30");
        CHECK.both("the first of equal ones", like, like.closest(1), 9, 0, 0);
        // boat 1 is touched by boat 2, then boat 0 is the next one ahead of boat 3
        BumpsRiver over = Check.with("20;20;30;30");
        CHECK.both("the next one that races", over, over.closest(3), 7, 20, 0);
    }

    private static void later() {
        BumpsRiver river = Check.with("30;50;40");
        CHECK.both("later(0, 0)", river, river.later(0, 0), 0, 0, 0);
        CHECK.both("later(2, 1)", river, river.later(2, 1), 2, 1, 1);
        CHECK.both("later(2, 2)", river, river.later(2, 2), 1, 0, 2);
        CHECK.both("later(1, 60)", river, river.later(1, 60), 0, 9, 2);
        CHECK.due("later(1, 61)", river.later(1, 61), -1);
        CHECK.due("later(1, -1)", river.later(1, -1), -1);
        CHECK.due("later(3, 1)", river.later(3, 1), -1);
        CHECK.due("later(-1, 1)", river.later(-1, 1), -1);
        CHECK.due("nothing changes", river.count(3) + river.count(4) + river.count(8), 0);
        river.days(1);
        CHECK.both("TOUCHES more", river, river.later(1, 1), 0, 1, 1);
    }

    private static void head() {
        BumpsRiver river = Check.with("10;20;50");
        CHECK.both("head(0)", river, river.head(0), 0, -1);
        // boat 1 touches boat 0 in stroke 9, but boat 2 boat 1 in stroke 3
        CHECK.both("head(2)", river, river.head(2), 2, 0);
        CHECK.due("head(1)", river.head(1), -2);
        CHECK.row("never: the row stays", river, 0);
        CHECK.due("head(3)", river.head(3), -1);
        CHECK.due("head(-1)", river.head(-1), -1);
        // they touch only on days that leave a rest of 3 by 7
        BumpsRiver slow = Check.with("10;10");
        Check.rule(slow, "(n=3)*i*9");
        CHECK.both("head on the fourth day", slow, slow.head(1), 4, 0);
        CHECK.due("nothing changes", slow.count(3), 0);
        slow.days(4);
        CHECK.both("boat 0 is back in a week", slow, slow.head(0), 7, 1);
    }

    private static void bumps() {
        BumpsRiver river = Check.with("10;10");
        Check.rule(river, ODD_ONES_TOUCH);
        CHECK.both("bumps(1, 0)", river, river.bumps(1, 0), 1, 30);
        CHECK.both("bumps(0, 1)", river, river.bumps(0, 1), 2, 30);
        CHECK.due("bumps(1, 1)", river.bumps(1, 1), -1);
        CHECK.due("bumps(0, 2)", river.bumps(0, 2), -1);
        CHECK.due("bumps(2, 0)", river.bumps(2, 0), -1);
        CHECK.due("bumps(-1, 0)", river.bumps(-1, 0), -1);
        CHECK.row("refused: the row stays", river, 30);
        BumpsRiver once = Check.with("30;50;40");
        CHECK.both("bumps(2, 0)", once, once.bumps(2, 0), 2, 1);
        CHECK.due("bumps(0, 1)", once.bumps(0, 1), -2);
        CHECK.due("bumps(2, 1)", once.bumps(2, 1), -2);
        CHECK.row("on none: the row stays", once, 1);
    }

    private static void blades() {
        // boat 2 touches boat 1 and, on the second day, boat 0
        BumpsRiver river = Check.with("10;10;90");
        CHECK.both("blades(1)", river, river.blades(1), 4, 2);
        CHECK.both("blades(2)", river, river.blades(2), 4, 0);
        CHECK.both("blades(3)", river, river.blades(3), 0, 0);
        CHECK.both("blades(9)", river, river.blades(9), 0, 0);
        CHECK.due("blades(0)", river.blades(0), -1);
        CHECK.due("blades(10)", river.blades(10), -1);
        CHECK.due("nothing changes", river.count(3), 0);
        // boat 0 is touched by boat 1, then by boat 2
        BumpsRiver down = Check.with("30;50;40");
        CHECK.both("down(1)", down, down.blades(1), 2, 1);
        CHECK.both("down(2)", down, down.blades(2), 0, 1);
        BumpsRiver none = new BumpsRiver();
        CHECK.both("none", none, none.blades(9), 0, 0);
    }

    private static void round() {
        BumpsRiver river = Check.with("10;10");
        Check.rule(river, ODD_ONES_TOUCH);
        CHECK.both("there and back", river, river.round(), 2, 2);
        BumpsRiver still = Check.with("90;10");
        CHECK.both("none touch", still, still.round(), 1, 1);
        BumpsRiver week = Check.with("10;10");
        Check.rule(week, "(n=0)*i*9");
        CHECK.both("in a week", week, week.round(), 8, 2);
        BumpsRiver never = Check.with("10;50");
        CHECK.due("never", never.round(), -2);
        CHECK.due("never: no row", never.count(9), 0);
        BumpsRiver none = new BumpsRiver();
        CHECK.both("without boats", none, none.round(), 1, 1);
        // day 0: pair 01, the others: pair 12, so that each goes through all three places
        BumpsRiver three = Check.with("10;10;10");
        Check.rule(three, "(n/2*2=n)*(i=1)*20+(n/2*2<n)*(i>1)*20");
        CHECK.both("three boats", three, three.round(), 6, 6);
    }

    private static BumpsRiver river(String boats, String rule, int gap, int strokes) {
        BumpsRiver river = Check.with(boats);
        Check.rule(river, rule);
        river.gap(gap);
        river.strokes(strokes);
        return river;
    }

    /** What comes on the 60th day is told, what comes on the 61st is not. */
    private static void sixtyDays() {
        BumpsRiver river = river("31;69;52;40;48;53", "p-x/2+(n=3)*i", 5, 25);
        CHECK.due("head, day 60", river.head(4), 60);
        CHECK.both("bumps, day 60", river, river.bumps(4, 1), 60, 1);
        river = river("63;91;67;83;99;87", "p*(n<x)+i-x/2", 26, 18);
        CHECK.due("head, day 61", river.head(3), -2);
        river.days(1);
        CHECK.due("head, day 61, a day later", river.head(3), 60);
        river = river("65;73;84;82;56;70", "p*(n<x)+i-x/2", 12, 8);
        CHECK.due("bumps, day 61", river.bumps(3, 0), -2);
        river.days(1);
        CHECK.both("bumps, day 61, a day later", river, river.bumps(3, 0), 60, 1);
        river = river("92;91;76;79;57;11", "p*(n<x)+i-x/2", 28, 23);
        CHECK.due("round, day 60", river.round(), 60);
        river = river("96;81;81;67;99;97", "p*(n<x)+i-x/2", 26, 14);
        CHECK.due("round, day 61", river.round(), -2);
        river = river("19;61;75;62;12;27", "p+(x*n+i)*7/5-x*2", 10, 37);
        CHECK.due("round, sixty different orders", river.round(), -2);
        river = river("48;65;46;30;51;67", "p-x/2+(n=3)*i", 9, 24);
        CHECK.due("differ, day 60", river.differ(9, 7), 60);
        river = river("17;71;44;21;19;84", "(p*n+x*3)/9", 28, 31);
        CHECK.due("differ, day 61", river.differ(28, 17), -2);
    }
}
