import java.util.Random;

/** The terms: limits of boats, gaps, strokes and rules, races, days, lawful sets, and refused calls. */
final class EdgesOfTerms {
    /** Boats on odd places touch the one ahead in the first stroke. */
    static final String ODD_ONES_TOUCH = "(i/2*2<i)*20";
    private static final String SIX = "10;20;30;40;50;60";

    private final Sentences s;

    EdgesOfTerms(Sentences s) {
        this.s = s;
    }

    void check() {
        s.terms();
        boats();
        numbers();
        ruleSigns();
        ruleThings();
        feet();
        race();
        day();
        lawful();
        rows();
        questions();
        refused();
    }

    private void boats() {
        s.says("BOATS 0 .. (at most 6)");
        BumpsRiver six = Check.with(SIX);
        s.due("count(0)", six.count(0), 6);
        s.due("the seventh", Check.boats(six, "11"), -1);
        s.due("count(0) then", six.count(0), 6);
        s.due("boat 0", Check.boat(six, 0, 0), 1L);
        s.due("boat 5", Check.boat(six, 5, 0), 6L);
        s.due("boat 6", Check.boat(six, 6, 0), Check.THROWN);

        s.says("PACE 1 .. 9");
        BumpsRiver river = Check.with("10;90");
        s.due("the least", river.boat(0, 0), 1);
        s.due("the greatest", river.boat(1, 0), 9);
        s.due("below", river.paces(1, 0), -1);
        s.due("above", river.paces(0, 10), -1);
        s.due("to the least", river.paces(1, 1), 9);
        s.due("to the greatest", river.paces(0, 9), 1);

        s.says("TIRED 0 .. 9");
        river = Check.with("10;19");
        s.due("the least", river.boat(0, 1), 0);
        s.due("the greatest", river.boat(1, 1), 9);

        s.says("PLACE (each another one; 0 is the head).");
        river = Check.with(SIX, ODD_ONES_TOUCH);
        for (int act = 0; act < 12; act++) {
            int bits = 0;
            for (int boat = 0; boat < 6; boat++) {
                bits |= 1 << river.boat(boat, 2);
            }
            s.due("all places", bits, 63);
            s.due("the head", river.boat(river.days(0), 2), 0);
            s.due("acts", act % 3 == 0 ? river.scratches(river.at(2)) : river.days(1) & 0, act % 3 == 0 ? 2 : 0);
        }

        s.says("They are told by a text of at most 17 signs");
        s.due("17", Check.boats(new BumpsRiver(), "11;22;33;44;55;66"), 6);
        s.due("18", Check.boats(new BumpsRiver(), "11;22;33;44;55;66;"), -18);

        s.says("LINES with ; between");
        s.due("one", Check.boats(new BumpsRiver(), "11"), 1);
        s.due("two", Check.boats(new BumpsRiver(), "11;22"), 2);
        s.due("none between", Check.boats(new BumpsRiver(), "1122"), -3);
        s.due("another one between", Check.boats(new BumpsRiver(), "11:22"), -3);
        s.due("two between", Check.boats(new BumpsRiver(), "11;;22"), -4);
        s.due("one behind", Check.boats(new BumpsRiver(), "11;"), -4);
        s.due("one ahead", Check.boats(new BumpsRiver(), ";11"), -1);

        s.says("each one more, at the foot");
        river = Check.with("30;50");
        river.scratches(0);
        s.due("two more", Check.boats(river, "45;17"), 2);
        s.due("they stand", Check.order(river), "1023");

        s.says("a digit (PACE, not 0)");
        s.due("0", Check.boats(new BumpsRiver(), "05"), -1);
        s.due("the sign below 0", Check.boats(new BumpsRiver(), "/5"), -1);
        s.due("the sign above 9", Check.boats(new BumpsRiver(), ":5"), -1);
        s.due("0 in a later line", Check.boats(new BumpsRiver(), "11;05"), -4);

        s.says("a digit (TIRED)");
        s.due("the sign below 0", Check.boats(new BumpsRiver(), "5/"), -2);
        s.due("the sign above 9", Check.boats(new BumpsRiver(), "5:"), -2);
        s.due("0 and 9", Check.boats(new BumpsRiver(), "50;59"), 2);
    }

    private void numbers() {
        s.says("GAP 1 .. 30 (at first 9)");
        BumpsRiver river = Check.with(SIX);
        s.due("at first", river.count(1), 9);
        s.due("0", river.gap(0), -1);
        s.due("31", river.gap(31), -1);
        s.due("30", river.gap(30), 9);
        s.due("the last one by 30", river.lies(5, 0), 850);
        s.due("1", river.gap(1), 30);
        s.due("the last one by 1", river.lies(5, 0), 995);

        s.says("STROKES 1 .. 40 (at first 20)");
        river = Check.with("10;10", "(t=39)*i*20");
        s.due("at first", river.count(2), 20);
        s.due("0", river.strokes(0), -1);
        s.due("41", river.strokes(41), -1);
        s.due("39", river.strokes(39), 20);
        s.due("they touch in stroke 40, not in 39", river.race(), 0);
        s.due("40", river.strokes(40), 39);
        s.both("in stroke 40", river, river.race(), 1, 40, 1, 0);
        s.due("1", river.strokes(1), 40);
        Check.ruled(river, "(t=0)*i*9");
        s.both("in stroke 1", river, river.race(), 1, 1, 1, 0);
        Check.ruled(river, "(t=1)*i*9");
        s.due("in stroke 2", river.race(), 0);

        s.says("DAY (at first 0)");
        s.due("count(3)", new BumpsRiver().count(3), 0);

        s.says("TOUCHES 0 .. 9999 (at first 0)");
        s.due("count(4)", new BumpsRiver().count(4), 0);
    }

    private void rule(String text, int want) {
        s.due("rule " + text, Check.rule(Check.with("53"), text), want);
    }

    /** Feet of the one boat there is, of pace 5 and tired by 3, in its first stroke. */
    private void feet(String text, int want) {
        s.due("feet by " + text, Check.with("53", text).lies(0, 1), 1000 + want);
    }

    private void ruleSigns() {
        s.says("THE RULE is a text of at most 40 signs (at first none: p-x/4).");
        rule("11" + Check.times("+1", 19), 0);
        rule("11" + Check.times("+1", 19) + "1", -41);
        rule("11" + Check.times("-0", 18) + "-9", 0);
        feet("11" + Check.times("-0", 18) + "-9", 2);
        s.due("at first", Check.with("54").lies(0, 1), 1004);
        s.due("at first, tired by 3", Check.with("53").lies(0, 1), 1005);
        s.due("at first, tired by 9", Check.with("59").lies(0, 1), 1003);
        s.due("at first, no feet below 0", Check.with("19").lies(0, 1), 1000);

        s.says("EXPRESSION: < > = bind least");
        feet("1+2=3", 1);
        feet("3=2+1", 1);
        feet("1<0+2", 1);
        feet("2>1+0", 1);
        feet("2*3>5", 1);
        feet("5<2*3", 1);

        s.says("(two; 1 or 0; not one behind the other)");
        feet("2<3", 1);
        feet("3<3", 0);
        feet("4<3", 0);
        feet("3>2", 1);
        feet("3>3", 0);
        feet("2>3", 0);
        feet("3=3", 1);
        feet("2=3", 0);
        rule("p<", -3);
        rule("<p", -1);
        rule("p<x<t", -4);
        rule("p<x>t", -4);
        rule("p=x=t", -4);
        rule("p>x+1=t", -6);
        rule("(p<x<t)", -5);
        rule("(p<x)<(t=x)", 0);
        rule("p<(x<t)", 0);

        s.says("then + - (from the left)");
        feet("9-3-2", 4);
        feet("9-3+2", 8);
        feet("2+3*4", 14);
        feet("14-6/3", 12);

        s.says("then * / (from the left; by 0: 0; cut to 0)");
        feet("16/4/2", 2);
        feet("12/5*5", 10);
        feet("2*9/4", 4);
        feet("7/0", 0);
        feet("7/0+3", 3);
        feet("0/0+3", 3);
        feet("7/(x-3)+1", 1);
        feet("7/0*5+2", 2);
        feet("7/2", 3);
        feet("9+-7/2", 6);
        feet("9+7/-2", 6);
        feet("9+-7/-2", 12);
        feet("9-7/2", 6);

        s.says("then - ahead of a thing (any many)");
        feet("--7", 7);
        feet("9---7", 2);
        feet("9+--7", 16);
        feet("20+3*-2", 14);
        feet("-(2-9)", 7);
        feet("--(9-2)", 7);
        feet(Check.times("-", 38) + "7", 7);
        feet("9" + Check.times("-", 38) + "7", 16);
        feet(Check.times("-", 39) + "7", 0);
        rule("-", -2);
        rule("+7", -1);

        s.says("things: a NUMBER of 1 to 3 digits");
        feet("7", 7);
        feet("17", 17);
        feet("007", 7);
        feet("999-990", 9);
        rule("1234", -4);
        rule("0000", -4);
        rule("p+1234", -6);

        s.says("an EXPRESSION in ( ) (at most 4 in one another)");
        feet("2*(1+2)", 6);
        feet("(3>2)+1", 2);
        feet("((((7))))", 7);
        rule("(((((7)))))", -5);
        rule("(((p+(x)+((p)))))", -11);
        feet("((((7))))-((((3))))", 4);
        rule("()", -2);
        rule("(p", -3);
        rule("p)", -2);
        rule("(p))", -4);
    }

    private void ruleThings() {
        s.says("and, of a BOAT: p PACE, x TIRED");
        feet("p", 5);
        feet("x", 3);
        rule("P", -1);
        rule("X", -1);
        rule("px", -2);
        rule("p5", -2);
        rule("5p", -2);

        s.says("t how many strokes were ahead of this one");
        BumpsRiver one = Check.with("53", "t");
        s.due("behind the first stroke", one.lies(0, 1), 1000);
        s.due("behind the second one", one.lies(0, 2), 1001);
        s.due("behind the third one", one.lies(0, 3), 1003);
        Check.ruled(one, "(t=39)*7");
        s.due("behind stroke 39", one.lies(0, 39), 1000);
        s.due("behind stroke 40", one.lies(0, 40), 1007);

        s.says("i PLACE");
        BumpsRiver six = Check.with(SIX, "i");
        s.due("the head", six.lies(0, 1), 1000);
        s.due("the last one", six.lies(5, 1), 960);
        six.scratches(0);
        s.due("the head that is the last one", six.lies(0, 1), 960);

        s.says("g how many feet it is behind the next RACING one ahead (99, if there is none)");
        BumpsRiver two = Check.with("10;10", "(g=99)*7");
        s.due("none ahead", two.lies(0, 1), 1007);
        s.due("one ahead", two.lies(1, 1), 991);
        two.gap(20);
        Check.ruled(two, "(i=1)*g/2");
        s.due("20 feet", two.lies(1, 1), 990);
        s.due("then 10 feet", two.lies(1, 2), 995);
        Check.ruled(two, "g/2");
        // the head goes 20 feet in each stroke, as there is none ahead of it
        s.due("20 feet, then 30", two.lies(1, 1) + " " + two.lies(1, 2), "990 1005");
        // boat 2 touches boat 1 in stroke 1; then boat 3 has boat 0 ahead, 3 times 5 feet
        BumpsRiver four = Check.with("10;10;10;10", "(t=0)*(i=2)*5+(t>0)*(g=15)*9");
        four.gap(5);
        s.due("boat 3 behind stroke 1", four.lies(3, 1), 985);
        s.due("boat 3 behind stroke 2", four.lies(3, 2), 994);

        s.says("b how many feet the next RACING one behind is behind it (99)");
        Check.ruled(two, "(b=99)*7");
        s.due("one behind", two.lies(0, 1), 1000);
        s.due("none behind", two.lies(1, 1), 987);
        Check.ruled(two, "(i=0)*b/2");
        s.due("20 feet", two.lies(0, 1), 1010);
        s.due("then 30 feet", two.lies(0, 2), 1025);
        Check.ruled(two, "b/4");
        // the last one goes 20 feet in each stroke, as there is none behind it
        s.due("20 feet, then 5", two.lies(0, 1) + " " + two.lies(0, 2), "1005 1006");
        Check.ruled(four, "(t=0)*(i=2)*5+(t>0)*(b=15)*9");
        s.due("boat 0 behind stroke 1", four.lies(0, 1), 1000);
        s.due("boat 0 behind stroke 2", four.lies(0, 2), 1009);

        s.says("n DAY by 7 (rest)");
        BumpsRiver days = Check.with("53", "n");
        for (int day = 0; day < 16; day++) {
            s.due("on day " + day, days.lies(0, 1), 1000 + day % 7);
            days.days(1);
        }
    }

    private void feet() {
        s.says("As ints, put to 0 .. 20: FEET.");
        feet("0", 0);
        feet("0-1", 0);
        feet("-999", 0);
        feet("20", 20);
        feet("21", 20);
        feet("999", 20);
        // 2 to 31 times 1 is the least int
        feet("512*512*512*16", 0);
        feet("-(512*512*512*16)", 0);
        feet("512*512*512*16/-1", 0);
        feet("512*512*512*16<0", 1);
        feet("512*512*512*16-1", 20);
        feet("512*512*512*32+7", 7);
        feet("999*999*999*999<0", 1);
    }

    private void race() {
        s.says("A RACE: a BOAT is at first GAP times its PLACE feet behind the head's (LIES at that below 0).");
        BumpsRiver six = Check.with(SIX);
        for (int boat = 0; boat < 6; boat++) {
            s.due("lies(" + boat + ", 0)", six.lies(boat, 0), 1000 - 9 * boat);
        }
        six.scratches(0);
        s.due("by its place", six.lies(0, 0), 955);
        s.due("the head then", six.lies(1, 0), 1000);

        s.says("All are RACING.");
        for (int boat = 0; boat < 6; boat++) {
            six.lies(boat, 0);
            s.row("boat " + boat, six, 1);
        }

        s.says("STROKES times: (1) each that is RACING goes FEET on, all as it is ahead of this stroke;");
        BumpsRiver two = Check.with("10;10", "(i=0)*5+(i=1)*g/3");
        s.due("9 feet ahead, not 14", two.lies(1, 1), 994);
        s.due("11 feet ahead", two.lies(1, 2), 997);
        Check.ruled(two, "(i=1)*3+(i=0)*b/3");
        s.due("9 feet behind, not 6", two.lies(0, 1), 1003);
        Check.ruled(two, "(i=1)*9");
        s.due("touched: it goes no more", two.lies(0, 5), 1000);
        s.due("it touched: it goes no more", two.lies(1, 5), 1000);

        s.says("(2) from the head on by PLACES");
        BumpsRiver three = Check.with("10;10;10", "i*10");
        s.both("boat 1 first, so boat 2 has none ahead", three, three.race(), 1, 1, 1, 0);
        three.scratches(0);
        s.both("by places, not by numbers", three, three.race(), 1, 1, 2, 1);

        s.says("each that is RACING and LIES as far as the next RACING one ahead of it (by PLACES), or farther, "
            + "TOUCHES it");
        Check.ruled(two, "(i=1)*8");
        two.strokes(1);
        s.due("a foot less", two.race(), 0);
        Check.ruled(two, "(i=1)*9");
        s.both("as far", two, two.race(), 1, 1, 1, 0);
        Check.ruled(two, "(i=1)*10");
        s.both("farther", two, two.race(), 1, 1, 1, 0);
        two.scratches(0);
        s.both("by places", two, two.race(), 1, 1, 0, 1);

        s.says("both are RACING no more, at once.");
        // boat 2 touches boat 1, and boat 3 then boat 0, in one stroke
        BumpsRiver four = Check.with("10;10;10;10", "(i=0)*9+(i>1)*20");
        four.gap(1);
        s.both("two in one stroke", four, four.race(), 2, 1, 2, 1, 1, 3, 0);
        Check.ruled(four, "(i=1)*20+(i=2)*20");
        s.both("boat 2 can't touch boat 1 then", four, four.race(), 1, 1, 1, 0);
        four.lies(1, 1);
        s.row("who touches", four, 0);
        four.lies(0, 1);
        s.row("who is touched", four, 0);
        four.lies(2, 1);
        s.row("another one", four, 1);
    }

    private void day() {
        s.says("A DAY: a RACE; then each two that TOUCHED change PLACES");
        BumpsRiver four = Check.with("10;10;10;10", "(i=0)*9+(i>1)*20");
        four.gap(1);
        four.days(1);
        s.due("pairs in one another", Check.order(four), "3210");
        BumpsRiver six = Check.with(SIX, ODD_ONES_TOUCH);
        six.days(1);
        s.due("pairs side by side", Check.order(six), "103254");
        six.days(1);
        s.due("and back", Check.order(six), "012345");

        s.says("TIRED of each that was RACING to the end is 1 more (9 at most)");
        BumpsRiver tired = Check.with("18;19;10", "0");
        tired.days(1);
        s.due("8, 9, 0", tired.boat(0, 1) + " " + tired.boat(1, 1) + " " + tired.boat(2, 1), "9 9 1");
        tired.days(60);
        s.due("all", tired.boat(0, 1) + " " + tired.boat(1, 1) + " " + tired.boat(2, 1), "9 9 9");

        s.says("of each other one 1 less (0 at least)");
        tired = Check.with("11;10;15", "(i=1)*20");
        tired.days(1);
        s.due("1, 0, and one that is not touched", tired.boat(0, 1) + " " + tired.boat(1, 1) + " " + tired.boat(2, 1),
            "0 0 6");
        tired = Check.with("19;19", "(i=1)*20");
        tired.days(1);
        s.due("9, 9", tired.boat(0, 1) + " " + tired.boat(1, 1), "8 8");

        s.says("TOUCHES is so many more (9999 at most)");
        BumpsRiver many = Check.with(SIX, ODD_ONES_TOUCH);
        many.days(1);
        s.due("three", many.count(4), 3);
        for (int i = 0; i < 55; i++) {
            many.days(60);
        }
        many.days(31);
        s.due("just below", many.count(4), 9996);
        many.days(1);
        s.due("just so many", many.count(4), 9999);
        many.days(1);
        s.due("no more", many.count(4), 9999);
        many.undo();
        many.undo();
        Check.ruled(many, "(i=1)*20");
        many.days(2);
        s.due("one by one", many.count(4), 9998);
        Check.ruled(many, ODD_ONES_TOUCH);
        many.days(1);
        s.due("one of three alone", many.count(4), 9999);

        s.says("DAY is 1 more.");
        s.due("count(3)", many.count(3), 1 + 55 * 60 + 31 + 3);
    }

    private void chartIs(String order, int can, int pairs) {
        BumpsRiver six = Check.with(SIX);
        s.both("chart " + order, six, Check.chart(six, order), can, can, pairs);
    }

    private void lawful() {
        s.says("LAWFUL: a set of pairs of PLACES (no two of which have one in common)");
        chartIs("012345", 1, 0);
        chartIs("102345", 1, 1);
        chartIs("012354", 1, 1);
        chartIs("103254", 1, 3);
        chartIs("120345", 0, 0);
        chartIs("123450", 0, 0);

        s.says("so that all PLACES between both of a pair are in pairs of the set that are between these.");
        chartIs("210345", 0, 0);
        chartIs("321045", 1, 2);
        chartIs("312045", 0, 0);
        chartIs("543210", 1, 3);
        chartIs("521430", 1, 3);
        chartIs("542310", 0, 0);
        chartIs("512340", 0, 0);
        chartIs("230145", 0, 0);
        chartIs("341205", 0, 0);
        chartIs("014325", 0, 0);
        chartIs("015432", 1, 2);
        chartIs("105432", 1, 3);

        s.says("(Such can TOUCH on one day, whatever BOATS do.)");
        Random random = new Random(1);
        String[] rules = {"p-x/4", "p*(t<n+5)", "p+g/5-x", "(b<5)*p+i*2", "p*3-t"};
        for (int i = 0; i < 200; i++) {
            StringBuilder boats = new StringBuilder();
            for (int boat = 0; boat < 6; boat++) {
                boats.append(boat > 0 ? ";" : "").append(1 + random.nextInt(9)).append(random.nextInt(10));
            }
            BumpsRiver river = Check.with(boats.toString(), rules[i % rules.length]);
            river.gap(1 + random.nextInt(8));
            int pairs = river.race();
            river.days(1);
            String then = Check.order(river);
            river.undo();
            s.both("a day of " + boats + " as a chart", river, Check.chart(river, then), 1, 1, pairs);
        }

        s.says("An ORDER is told by digits: BOATS from the head on, each once.");
        BumpsRiver three = Check.with("10;20;30");
        three.scratches(0);
        s.due("as they stand", Check.soonest(three, "120"), 0);
        s.due("one twice", Check.soonest(three, "122"), -3);
        s.due("no digit", Check.soonest(three, "12:"), -3);
    }

    private void rows() {
        s.says("ROW: numbers told last by a call that says so.");
        BumpsRiver river = Check.with("30;50;40");
        s.due("none yet", river.count(9), 0);
        river.race();
        s.row("of race()", river, 5, 1, 0);
        river.over();
        s.row("of over()", river, 2, 1);
        river.gap(8);
        river.gap(9);
        river.pulls(9, 3);
        river.heard(0, 1);
        river.forget();
        river.keep(0);
        river.again(0);
        river.boat(0, 4);
        river.at(0);
        river.count(4);
        river.sheet(0, -1, 0, 0);
        Check.ruled(river, "");
        Check.soonest(river, "012");
        s.row("calls that tell none", river, 2, 1);
        river.strokes(4);
        s.both("race() that tells none", river, river.race(), 0);

        s.says("Sets (of BOATS) are bits.");
        BumpsRiver six = Check.with(SIX, ODD_ONES_TOUCH);
        s.both("over()", six, six.over(), 0, 42, 21);
        s.both("fits()", six, six.fits(), 63, 6);
        s.both("blades(1)", six, six.blades(1), 42, 21);

        s.says("Rows are compared from the first number on.");
        // of 0 0, 0 1, 1 0 and 1 1
        s.both("crews(1)", six, six.crews(1), 4, 0, 0);

        s.says("Fractions are told in lowest terms, upper and lower number (0 by 1).");
        BumpsRiver two = Check.with("10;10");
        s.both("25 of 100", two, two.likely(1, 5), 0, 1, 4);
        s.both("24 of 100", two, two.likely(1, 4), 0, 6, 25);
        s.both("9 of 100", two, two.likely(1, 1), 0, 9, 100);
        s.both("0 of 100", two, two.likely(1, 0), 0, 0, 1);
        Check.ruled(two, "i*20");
        s.both("100 of 100", two, two.likely(1, 3), 0, 1, 1);
    }

    /** A river with something of each kind to lose. */
    private static BumpsRiver full() {
        BumpsRiver river = Check.with("31;52;40;64");
        Check.ruled(river, "p-x/3+(g<4)");
        river.keep(1);
        river.days(2);
        river.gap(7);
        river.heard(0, 3);
        river.heard(1, 1);
        river.race();
        river.sign(0x30303030);
        return river;
    }

    private void questions() {
        s.says("Questions change nothing.");
        BumpsRiver river = full();
        String state = Check.state(river) + river.count(7) + " " + river.count(8) + " " + river.count(10);
        int[] asked = {river.race(), river.lies(2, 40), river.over(), river.closest(3), river.later(1, 60),
            river.head(3), river.bumps(3, 2), river.blades(9), river.round(), river.sets(), river.orders(6),
            river.best(3, 6), river.spurs(3), river.calm(), river.differ(1, 30), river.helps(3, 30), river.fits(),
            river.asks(), river.likely(3, 5), river.pulls(60, 9), river.crews(20), river.years(7, 60), river.count(5),
            river.boat(3, 4), river.boat(3, 5), river.at(3)};
        s.due("what " + asked.length + " questions leave", Check.state(river) + river.count(7) + " " + river.count(8)
            + " " + river.count(10), state);
        Check.soonest(river, "3210");
        Check.crossed(river, "3210");
        Check.chart(river, "0123;1032");
        Check.law(river, "i*20");
        s.due("what questions by texts leave", Check.state(river) + river.count(7) + " " + river.count(8) + " 4",
            state);
        s.due("the rule that stays", river.race() + Check.rowOf(river), full().race() + Check.rowOf(full()));
        s.due("what was kept", river.again(1) + Check.state(river), "true" + kept());
    }

    private static String kept() {
        BumpsRiver river = full();
        river.again(1);
        return Check.state(river);
    }

    private void refusedIs(String call, BumpsRiver river, Object got, Object want, String before) {
        s.due(call, got, want);
        s.same(call, river, before);
    }

    private void refused() {
        s.says("Refused calls answer NONE, or false, and change nothing");
        BumpsRiver r = full();
        String b = Check.whole(r);
        refusedIs("end", r, r.end(5), false, b);
        refusedIs("sheet, another kind", r, r.sheet(4, 1, 1, 1), -1, b);
        refusedIs("sheet, n above 6", r, r.sheet(0, 7, 1, 1), -1, b);
        refusedIs("sheet, n below 0", r, r.sheet(0, -1, 1, 1), -2, b);
        refusedIs("days(61)", r, r.days(61), -2, b);
        refusedIs("scratches(4)", r, r.scratches(4), -1, b);
        refusedIs("scratches, the last one", r, r.scratches(r.at(3)), -2, b);
        refusedIs("rests(4)", r, r.rests(4), -1, b);
        refusedIs("paces(4, 1)", r, r.paces(4, 1), -1, b);
        refusedIs("paces(0, 0)", r, r.paces(0, 0), -1, b);
        refusedIs("paces, as it is", r, r.paces(0, 3), -2, b);
        refusedIs("gap(31)", r, r.gap(31), -1, b);
        refusedIs("gap, as it is", r, r.gap(7), -2, b);
        refusedIs("strokes(41)", r, r.strokes(41), -1, b);
        refusedIs("strokes, as they are", r, r.strokes(20), -2, b);
        refusedIs("lies(4, 0)", r, r.lies(4, 0), -1, b);
        refusedIs("lies(0, 41)", r, r.lies(0, 41), -1, b);
        refusedIs("closest(4)", r, r.closest(4), -1, b);
        refusedIs("later(0, 61)", r, r.later(0, 61), -1, b);
        refusedIs("head(4)", r, r.head(4), -1, b);
        refusedIs("bumps(1, 1)", r, r.bumps(1, 1), -1, b);
        refusedIs("blades(10)", r, r.blades(10), -1, b);
        refusedIs("orders(7)", r, r.orders(7), -1, b);
        refusedIs("best(0, 7)", r, r.best(0, 7), -1, b);
        refusedIs("spurs(4)", r, r.spurs(4), -1, b);
        refusedIs("differ(0, 1)", r, r.differ(0, 1), -1, b);
        refusedIs("helps(0, 31)", r, r.helps(0, 31), -1, b);
        refusedIs("heard(5, 0)", r, r.heard(5, 0), -1, b);
        refusedIs("likely(0, 11)", r, r.likely(0, 11), -1, b);
        refusedIs("pulls(61, 2)", r, r.pulls(61, 2), -1, b);
        refusedIs("crews(21)", r, r.crews(21), -1, b);
        refusedIs("years(1, 61)", r, r.years(1, 61), -2, b);
        refusedIs("keep(3)", r, r.keep(3), false, b);
        refusedIs("again(0)", r, r.again(0), false, b);
        refusedIs("again(3)", r, r.again(3), false, b);
        refusedIs("boat(4, 0)", r, Check.boat(r, 4, 0), Check.THROWN, b);
        refusedIs("at(4)", r, Check.at(r, 4), Check.THROWN, b);
        refusedIs("row(9)", r, Check.row(r, 9), Check.THROWN, b);
        refusedIs("count(11)", r, r.count(11), -100, b);
        r.again(1);
        b = Check.whole(r);
        refusedIs("undo(), none", r, r.undo(), -1, b);

        s.says("but THE TEXT, which a call that reads it empties.");
        r = full();
        r.end(0);
        b = Check.whole(r);
        refusedIs("boats", r, Check.boats(r, "11;"), -4, b);
        refusedIs("boats, no room", r, Check.boats(r, "11;11;11"), -7, b);
        refusedIs("rule", r, Check.rule(r, "p+"), -3, b);
        refusedIs("week", r, Check.week(r, "n1n"), -4, b);
        refusedIs("soonest", r, Check.soonest(r, "012"), -4, b);
        refusedIs("crossed", r, Check.crossed(r, "0124"), -4, b);
        refusedIs("chart", r, Check.chart(r, "0123;"), -6, b);
        refusedIs("law", r, Check.law(r, "(p"), -10002, b);
        emptied("boats", r, Check.boats(r, "11"), 1);
        emptied("rule", r, Check.rule(r, "p"), 0);
        emptied("week", r, Check.week(r, "n1"), 1);
        emptied("soonest", r, Check.soonest(r, Check.order(r)), 0);
        emptied("crossed", r, Check.crossed(r, Check.order(r)), 0);
        emptied("chart", r, Check.chart(r, Check.order(r)), 1);
        emptied("law", r, Check.law(r, "p"), 0);
    }

    private void emptied(String call, BumpsRiver river, int got, int want) {
        s.due(call + " of a fine text", got, want);
        s.due(call + " of a fine text: signs left", river.count(10), 0);
    }
}
