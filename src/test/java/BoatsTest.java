/** Promises 1 to 8: a new object, texts, boats, rules, sheets. */
public final class BoatsTest {
    private static final Check CHECK = new Check("boats");

    public static void main(String[] args) {
        newObject();
        signAndEnd();
        boats();
        ruleFaults();
        ruleValues();
        boatAndAt();
        sheet();
        CHECK.finish();
    }

    private static void newObject() {
        BumpsRiver river = new BumpsRiver();
        int[] want = {0, 9, 20, 0, 0, 0, 0, 0, 0, 0, 0};
        for (int what = 0; what < want.length; what++) {
            CHECK.due("new: count(" + what + ")", river.count(what), want[what]);
        }
        CHECK.due("NONE", BumpsRiver.NONE, -1);
    }

    private static void signAndEnd() {
        BumpsRiver river = new BumpsRiver();
        for (int i = 1; i <= 20; i++) {
            CHECK.due("sign " + i, river.sign(-1), 4 * i);
        }
        CHECK.due("sign, no room", river.sign(0), -1);
        CHECK.due("sign, no room: the text stays", river.count(10), 80);
        CHECK.due("end(81)", river.end(81), false);
        CHECK.due("end(-1)", river.end(-1), false);
        CHECK.due("end(80)", river.end(80), true);
        CHECK.due("end(77)", river.end(77), true);
        CHECK.due("sign with 77", river.sign(0), -1);
        CHECK.due("end(76)", river.end(76), true);
        CHECK.due("sign with 76", river.sign(0), 80);
        CHECK.due("end(0)", river.end(0), true);
        CHECK.due("end(1) of none", river.end(1), false);
        // the highest byte comes first: "50;6", then "1"
        river.sign(0x35303b36);
        river.sign(0x31000000);
        river.end(5);
        CHECK.due("boats of 50;61", river.boats(), 2);
        CHECK.due("its last sign", river.boat(1, 1), 1);
    }

    private static void boatsFault(String there, String text, int want) {
        BumpsRiver river = Check.with(there);
        int before = river.count(0);
        CHECK.due(there + " boats(" + text + ")", Check.boats(river, text), want);
        CHECK.due(there + " boats(" + text + "): none comes", river.count(0), before);
        CHECK.due(there + " boats(" + text + "): the text is empty", river.count(10), 0);
    }

    private static void boats() {
        BumpsRiver river = new BumpsRiver();
        CHECK.due("boats, empty", Check.boats(river, ""), 0);
        CHECK.due("boats, two", Check.boats(river, "35;90"), 2);
        CHECK.due("boats, two more", Check.boats(river, "19;20"), 2);
        int[][] want = {{3, 5, 0}, {9, 0, 1}, {1, 9, 2}, {2, 0, 3}};
        for (int boat = 0; boat < 4; boat++) {
            for (int what = 0; what < 3; what++) {
                CHECK.due("boat " + boat + " " + what, river.boat(boat, what), want[boat][what]);
            }
        }
        river.scratches(0);
        Check.boats(river, "77");
        CHECK.due("a new one is at the foot", river.at(4), 4);
        CHECK.due("the one ahead of it", river.at(3), 0);
        CHECK.due("six in one text", Check.boats(new BumpsRiver(), "11;22;33;44;55;66"), 6);

        boatsFault("", "05", -1);
        boatsFault("", "5", -2);
        boatsFault("", "5x", -2);
        boatsFault("", "55x", -3);
        boatsFault("", "55;", -4);
        boatsFault("", "55;;", -4);
        boatsFault("", "55;1", -5);
        boatsFault("", ";", -1);
        boatsFault("", "555", -3);
        boatsFault("", "11;22;33;44;55;66;", -18);
        boatsFault("", "11;22;33;44;55;66;77", -18);
        boatsFault("", "11;22;33;44;55;661", -18);
        boatsFault("", "11;22;03;44;55;66;77", -7);
        boatsFault("11;11;11;11;11", "11;22", -4);
        boatsFault("11;11;11;11;11", "11;", -4);
        boatsFault("11;11;11", "11;22;33;44;55;66;77", -10);
        boatsFault("11;11;11;11;11;11", "11", -1);
        boatsFault("11;11;11;11;11;11", "x", -1);
        CHECK.due("empty with six", Check.boats(Check.with("11;11;11;11;11;11"), ""), 0);

        BumpsRiver past = Check.with("11");
        past.gap(4);
        Check.boats(past, "");
        CHECK.due("an empty text forgets nothing", past.count(8), 1);
        Check.boats(past, "1");
        CHECK.due("a wrong text forgets nothing", past.count(8), 1);
        Check.boats(past, "11");
        CHECK.due("boats forget what can be undone", past.count(8), 0);
        CHECK.due("and stay as it is else", past.count(1), 4);
    }

    private static void ruleFault(String text, int want) {
        BumpsRiver river = Check.with("50");
        Check.rule(river, "7");
        CHECK.due("rule(" + text + ")", Check.rule(river, text), want);
        CHECK.due("rule(" + text + "): the text is empty", river.count(10), 0);
        if (want < 0) {
            CHECK.due("rule(" + text + "): the former one stays", river.lies(0, 1), 1007);
        }
    }

    private static void ruleFaults() {
        ruleFault(" ", -1);
        ruleFault("P", -1);
        ruleFault("*p", -1);
        ruleFault("+p", -1);
        ruleFault(")", -1);
        ruleFault("-", -2);
        ruleFault("p+", -3);
        ruleFault("p+*x", -3);
        ruleFault("p)", -2);
        ruleFault("pp", -2);
        ruleFault("p2", -2);
        ruleFault("2p", -2);
        ruleFault("p(x)", -2);
        ruleFault("(p)2", -4);
        ruleFault("()", -2);
        ruleFault("(", -2);
        ruleFault("(p", -3);
        ruleFault("(p]", -3);
        ruleFault("123", 0);
        ruleFault("1234", -4);
        ruleFault("000", 0);
        ruleFault("p<x<t", -4);
        ruleFault("p<x+1=t", -6);
        ruleFault("(p<x<t)", -5);
        ruleFault("(p<x)<(t=1)", 0);
        ruleFault("<p", -1);
        ruleFault("p<", -3);
        ruleFault("((((p))))", 0);
        ruleFault("(((((p)))))", -5);
        ruleFault("((((p))))+((((x))))", 0);
        ruleFault("(((p+(x)+((p)))))", -11);
        ruleFault("p" + (char) 0, -2);
        ruleFault("p" + (char) 255, -2);
        ruleFault("1" + Check.times("+1", 19), 0);
        ruleFault("11" + Check.times("+1", 19), 0);
        ruleFault("111" + Check.times("+1", 19), -41);
        ruleFault("11" + Check.times("+1", 19) + "+", -41);
        ruleFault("11" + Check.times("+1", 19) + "z", -41);
        ruleFault("1" + Check.times("+1", 19) + "+", -41);
        ruleFault("1z" + Check.times("+1", 19) + "+", -2);
        ruleFault(Check.times("-", 39) + "p", 0);
        ruleFault(Check.times("-", 40), -41);
        ruleFault(Check.times("-", 41) + "p", -41);
        ruleFault("", 0);
    }

    /** Feet of the one boat there is (pace 5, tired 3) in its first stroke. */
    private static void ruleValue(String text, int want) {
        BumpsRiver river = Check.with("53");
        CHECK.due("rule(" + text + ")", Check.rule(river, text), 0);
        CHECK.due("feet by " + text, river.lies(0, 1), 1000 + want);
    }

    private static void ruleValues() {
        ruleValue("2+3*4", 14);
        ruleValue("20-6/4", 19);
        ruleValue("7/0+1", 1);
        ruleValue("7/(x-3)", 0);
        ruleValue("-7/2+9", 6);
        ruleValue("7/-2+9", 6);
        ruleValue("10-3-2", 5);
        ruleValue("16/4/2", 2);
        ruleValue("12/5*5", 10);
        ruleValue("2<3", 1);
        ruleValue("3<3", 0);
        ruleValue("3>2", 1);
        ruleValue("3>3", 0);
        ruleValue("4=4", 1);
        ruleValue("4=5", 0);
        ruleValue("1+2=3", 1);
        ruleValue("3>2+1", 0);
        ruleValue("(3>2)+1", 2);
        ruleValue("2*(1+2)", 6);
        ruleValue("--5", 5);
        ruleValue("10--5", 15);
        ruleValue("10---5", 5);
        ruleValue("2*-3+9", 3);
        ruleValue("-2*-3", 6);
        ruleValue("-(2-9)", 7);
        ruleValue("p", 5);
        ruleValue("x", 3);
        ruleValue("i+1", 1);
        ruleValue("t+1", 1);
        ruleValue("n+1", 1);
        ruleValue("g/9", 11);
        ruleValue("b/9", 11);
        ruleValue("999", 20);
        ruleValue("20", 20);
        ruleValue("21", 20);
        ruleValue("0-5", 0);
        ruleValue("007", 7);
        ruleValue("999*999*999*999<0", 1);
        ruleValue("", 5);
        ruleValue("p-x", 2);

        BumpsRiver tired = Check.with("54");
        CHECK.due("without a rule: p-x/4", tired.lies(0, 1), 1004);
        Check.rule(tired, "t");
        CHECK.due("t of four strokes", tired.lies(0, 4), 1006);
        Check.rule(tired, "n");
        tired.days(6);
        CHECK.due("n on day 6", tired.lies(0, 1), 1006);
        tired.days(1);
        CHECK.due("n on day 7", tired.lies(0, 1), 1000);
        tired.days(1);
        CHECK.due("n on day 8", tired.lies(0, 1), 1001);

        BumpsRiver two = Check.with("10;90");
        Check.rule(two, "g");
        CHECK.due("g without one ahead", two.lies(0, 1), 1020);
        CHECK.due("g of the next one", two.lies(1, 1), 1000);
        Check.rule(two, "b");
        CHECK.due("b of the head", two.lies(0, 1), 1009);
        CHECK.due("b without one behind", two.lies(1, 1), 1011);
        CHECK.row("it touches", two, 0);
        Check.rule(two, "i");
        CHECK.due("i of place 0", two.lies(0, 1), 1000);
        CHECK.due("i of place 1", two.lies(1, 1), 992);
        two.scratches(0);
        CHECK.due("i of place 1, changed", two.lies(0, 1), 992);

        // in stroke 1 boat 2 touches boat 1; ahead of stroke 2 boat 3 is 21 feet behind boat 0
        BumpsRiver out = Check.with("20;10;90;30");
        out.gap(5);
        Check.rule(out, "(t=0)*p+(t>0)*g/4");
        CHECK.due("boat 3 ahead of it", out.lies(3, 1), 988);
        CHECK.due("boat 0 ahead of it", out.lies(0, 1), 1002);
        CHECK.row("racing", out, 1);
        CHECK.due("g of the next one that is racing", out.lies(3, 2), 991);
    }

    private static void boatAndAt() {
        BumpsRiver river = Check.with("30;51;40");
        long[][] want = {{3, 0, 0, -1, -1, 1}, {5, 1, 1, 0, 0, -1}, {4, 0, 2, 1, -1, -1}};
        for (int boat = 0; boat < 3; boat++) {
            for (int what = 0; what < 6; what++) {
                CHECK.due("boat(" + boat + ", " + what + ")", Check.boat(river, boat, what), want[boat][what]);
            }
            CHECK.due("at", Check.at(river, boat), (long) boat);
            CHECK.due("boat(.., 6)", Check.boat(river, boat, 6), Check.THROWN);
            CHECK.due("boat(.., -1)", Check.boat(river, boat, -1), Check.THROWN);
        }
        CHECK.due("boat(3, 0)", Check.boat(river, 3, 0), Check.THROWN);
        CHECK.due("boat(-1, 0)", Check.boat(river, -1, 0), Check.THROWN);
        CHECK.due("boat(max, 2)", Check.boat(river, Integer.MAX_VALUE, 2), Check.THROWN);
        CHECK.due("at(3)", Check.at(river, 3), Check.THROWN);
        CHECK.due("at(-1)", Check.at(river, -1), Check.THROWN);
        CHECK.due("at(min)", Check.at(river, Integer.MIN_VALUE), Check.THROWN);
        CHECK.due("no row was told", river.count(9), 0);
        river.days(1);
        CHECK.due("at(0) later", Check.at(river, 0), 1L);
        CHECK.due("next ahead later", Check.boat(river, 0, 3), 1L);
        CHECK.due("place later", Check.boat(river, 0, 2), 1L);
    }

    private static void sheetIs(BumpsRiver river, String call, int got, int want, int... paces) {
        CHECK.due(call, got, want);
        for (int boat = 0; boat < paces.length; boat++) {
            CHECK.due(call + ", pace of " + boat, river.boat(boat, 0), paces[boat]);
        }
    }

    private static void sheet() {
        BumpsRiver river = Check.with("30;50;40");
        sheetIs(river, "ints", river.sheet(2, 3, 4, 2), 18, 4, 6, 8);
        sheetIs(river, "bytes", river.sheet(0, 3, 127, 1), 11, 9, 1, 1);
        sheetIs(river, "bytes round", river.sheet(0, 3, 254, 2), 4, 1, 1, 2);
        sheetIs(river, "shorts", river.sheet(1, 3, 32767, 1), 11, 9, 1, 1);
        sheetIs(river, "shorts round", river.sheet(1, 3, 65536 + 5, 65536), 15, 5, 5, 5);
        sheetIs(river, "ints that go round", river.sheet(2, 3, Integer.MAX_VALUE, 1), 11, 9, 1, 1);
        sheetIs(river, "ints are no bytes", river.sheet(2, 3, 254, 2), 27, 9, 9, 9);
        sheetIs(river, "fewer", river.sheet(2, 1, 7, 1), 9, 7, 1, 1);
        sheetIs(river, "more than boats", river.sheet(2, 6, 2, 1), 9, 2, 3, 4);
        sheetIs(river, "n below 0", river.sheet(2, -1, 2, 1), -2, 2, 3, 4);
        sheetIs(river, "n far below 0", river.sheet(0, Integer.MIN_VALUE, 2, 1), -2, 2, 3, 4);
        sheetIs(river, "n above 6", river.sheet(2, 7, 9, 1), -1, 2, 3, 4);
        sheetIs(river, "another kind", river.sheet(4, 3, 9, 1), -1, 2, 3, 4);
        sheetIs(river, "another kind, n below 0", river.sheet(-1, -1, 9, 1), -1, 2, 3, 4);
        sheetIs(river, "missing, n above 6", river.sheet(3, 7, 9, 1), -1, 2, 3, 4);
        sheetIs(river, "missing", river.sheet(3, 3, 9, 1), -3, 1, 1, 1);
        river.sheet(2, 3, 5, 0);
        sheetIs(river, "missing, n below 0", river.sheet(3, -1, 9, 1), -3, 1, 1, 1);
        sheetIs(river, "no entries", river.sheet(1, 0, 9, 1), 3, 1, 1, 1);
        CHECK.due("a sheet is no act", river.count(8), 0);
    }
}
