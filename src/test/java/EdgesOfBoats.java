/** Promises 1 to 8: a new object, THE TEXT, boats, rules, sheets. */
final class EdgesOfBoats {
    private static final String SIX = "11;22;33;44;55;66";
    private static final int[] FAR = {Integer.MIN_VALUE, Integer.MIN_VALUE + 1, -7, Integer.MAX_VALUE};

    private final Sentences s;

    EdgesOfBoats(Sentences s) {
        this.s = s;
    }

    void check() {
        newObject();
        sign();
        end();
        boats();
        rule();
        boat();
        at();
        sheet();
    }

    private void newObject() {
        s.promise(1);
        s.says("No BOATS.");
        BumpsRiver river = new BumpsRiver();
        s.due("count(0)", river.count(0), 0);
        s.due("PACES and TIRED", river.count(5) + river.count(6), 0);
        s.due("boat(0, 0)", Check.boat(river, 0, 0), Check.THROWN);
        s.due("at(0)", Check.at(river, 0), Check.THROWN);
        s.due("days(0)", river.days(0), -1);
    }

    private void sign() {
        s.promise(2);
        s.says("Four signs come behind THE TEXT, of v the highest byte first: how many it has.");
        BumpsRiver river = new BumpsRiver();
        s.due("the first four", river.sign(0x35393b36), 4);
        s.due("four more", river.sign(0x38000000), 8);
        river.end(5);
        s.due("59;68", river.boats(), 2);
        s.due("of the first four", river.boat(0, 0) + " " + river.boat(0, 1) + " " + river.boat(1, 0), "5 9 6");
        s.due("of the next ones", river.boat(1, 1), 8);
        s.due("bytes above 127", river.sign(-1), 4);
        s.due("they are no signs of boats", river.boats(), -1);
        river.sign(0x31320000);
        river.end(2);
        s.due("behind two", river.sign(0x3b333400), 6);
        river.end(5);
        s.due("12;34", river.boats(), 2);

        s.says("Refused: there would be more than 80.");
        for (int length = 76; length <= 80; length++) {
            BumpsRiver full = new BumpsRiver();
            Check.say(full, "15;27" + Check.times("z", length - 5));
            s.due("behind " + length, full.sign(0x31313131), length == 76 ? 80 : -1);
            s.due("signs then", full.count(10), length == 76 ? 80 : length);
            full.end(5);
            s.due("the first ones stay", full.boats(), 2);
        }
    }

    private void end() {
        s.promise(3);
        s.says("THE TEXT has its first n signs alone: true");
        BumpsRiver river = new BumpsRiver();
        Check.say(river, "15;27;33");
        s.due("end(8), all", river.end(8), true);
        s.due("signs", river.count(10), 8);
        s.due("end(5)", river.end(5), true);
        s.due("signs then", river.count(10), 5);
        s.due("what they tell", river.boats(), 2);
        s.due("end(0) of none", river.end(0), true);
        river.sign(0);
        s.due("end(0) of four", river.end(0), true);
        s.due("signs at last", river.count(10), 0);
        Check.say(river, "15;2");
        river.end(2);
        s.due("signs behind the end are gone", river.boats(), 1);

        s.says("false if it has not so many");
        s.due("end(1) of none", river.end(1), false);
        river.sign(0);
        s.due("end(5) of four", river.end(5), false);
        s.due("end(max) of four", river.end(Integer.MAX_VALUE), false);
        s.due("they stay", river.count(10), 4);
        s.due("end(4) of four", river.end(4), true);

        s.says("or n is below 0");
        s.due("end(-1)", river.end(-1), false);
        s.due("end(min)", river.end(Integer.MIN_VALUE), false);
        s.due("they stay", river.count(10), 4);
    }

    private void boatsOf(String there, String text, int want) {
        BumpsRiver river = Check.with(there);
        String before = Check.state(river);
        s.due("with [" + there + "] " + text, Check.boats(river, text), want);
        s.due("with [" + there + "] " + text + ": signs", river.count(10), 0);
        if (want <= 0) {
            s.due("with [" + there + "] " + text + ": it stays", Check.state(river), before);
        }
    }

    private void boats() {
        s.promise(4);
        s.says("THE TEXT tells of BOATS (an empty one: nothing): how many LINES.");
        boatsOf("", "", 0);
        boatsOf("11", "", 0);
        boatsOf(SIX, "", 0);
        boatsOf("", "11", 1);
        boatsOf("", SIX, 6);
        boatsOf("11;22;33;44;55", "66", 1);
        boatsOf("11", "22;33;44;55;66", 5);

        s.says("-1 - p: the sign at p can't stand there");
        boatsOf("", "x", -1);
        boatsOf("", ";", -1);
        boatsOf("", "1;", -2);
        boatsOf("", "111", -3);
        boatsOf("", "11;x", -4);
        boatsOf("", "11;2x", -5);
        boatsOf("", "11;22;33;44;55;6x", -17);
        boatsOf("", "11;22;33;44;55;06", -16);
        boatsOf("", "1" + (char) 0, -2);
        boatsOf("", (char) 255 + "1", -1);

        s.says("its end, if it ends too early");
        boatsOf("", "1", -2);
        boatsOf("", "11;", -4);
        boatsOf("", "11;2", -5);
        boatsOf("", "11;22;33;44;55;", -16);
        boatsOf("", "11;22;33;44;55;6", -17);

        s.says("the first sign of a LINE for which there is no room");
        boatsOf(SIX, "11", -1);
        boatsOf(SIX, "1", -1);
        boatsOf(SIX, "x", -1);
        boatsOf("11;22;33;44;55", "66;11", -4);
        boatsOf("11;22;33;44;55", "66;1", -4);
        boatsOf("11;22;33;44;55", "66;", -4);
        boatsOf("11;22;33;44;55", "66;x", -4);
        boatsOf("11", SIX, -16);
        boatsOf("11;22", SIX, -13);
        boatsOf("11;22;33", SIX + ";11", -10);

        s.says("17, if it has more and the first 17 could go on or end");
        boatsOf("", SIX + ";", -18);
        boatsOf("", SIX + ";77", -18);
        boatsOf("", SIX + "x", -18);
        boatsOf("", SIX + Check.times(";11", 21), -18);
        boatsOf("", "11;22;33;44;55;6x;77", -17);
        boatsOf("", "x" + SIX + ";77", -1);

        s.says("Nothing of it comes, if a LINE can't.");
        boatsOf("", "11;22;33;44;5", -14);
        boatsOf("11", "22;33;04", -7);
        BumpsRiver river = Check.with("11");
        river.keep(0);
        river.gap(4);
        Check.boats(river, "22;0");
        s.due("what can be undone stays", river.count(8), 1);
        s.due("what is kept stays", river.again(0), true);
    }

    private void ruleOf(String text, int want) {
        BumpsRiver river = Check.with("50", "7");
        s.due(text, Check.rule(river, text), want);
        s.due(text + ": signs", river.count(10), 0);
        if (want < 0) {
            s.due(text + ": the former one stays", river.lies(0, 1), 1007);
        }
    }

    private void rule() {
        String odd = "1" + Check.times("+1", 19);
        String forty = "1" + odd;
        s.promise(5);
        s.says("THE TEXT is THE RULE (an empty one: none): 0.");
        ruleOf("p", 0);
        ruleOf("", 0);
        BumpsRiver river = Check.with("54", "7");
        s.due("by 7", river.lies(0, 1), 1007);
        Check.ruled(river, "8");
        s.due("by 8", river.lies(0, 1), 1008);
        Check.ruled(river, "");
        s.due("by none", river.lies(0, 1), 1004);
        Check.ruled(river, "p+x");
        s.due("by p+x", river.lies(0, 1), 1009);
        s.due("no act", river.count(8), 0);

        s.says("-1 - p: the sign at p can't stand there");
        ruleOf(" p", -1);
        ruleOf("p ", -2);
        ruleOf("*p", -1);
        ruleOf(")", -1);
        ruleOf("p+*x", -3);
        ruleOf("p+)", -3);
        ruleOf("pp", -2);
        ruleOf("(p]", -3);
        ruleOf("p%x", -2);
        ruleOf("p" + (char) 0, -2);
        ruleOf("p" + (char) 240, -2);
        ruleOf("q", -1);
        ruleOf("p<x=t", -4);
        ruleOf(forty.substring(0, 39) + "z", -40);

        s.says("its end, if it ends too early");
        ruleOf("p+", -3);
        ruleOf("p<", -3);
        ruleOf("-", -2);
        ruleOf("(", -2);
        ruleOf("(p", -3);
        ruleOf("((p)", -5);
        ruleOf(odd + "+", -41);
        ruleOf(Check.times("-", 40), -41);
        Check.say(river, "p+x");
        river.end(2);
        s.due("a sign behind the end does not count", river.rule(), -3);

        s.says("40, if it has more and the first 40 could go on or end");
        ruleOf(forty, 0);
        ruleOf(forty + "+", -41);
        ruleOf(forty + "+1", -41);
        ruleOf(forty + "2", -41);
        ruleOf(forty + "z", -41);
        ruleOf(odd + "+p", -41);
        ruleOf(Check.times("-", 79) + "p", -41);
        ruleOf("z" + forty, -1);
        ruleOf(forty.substring(0, 38) + "zz" + "1", -39);
        ruleOf("((((" + Check.times("-", 35) + "((p", -40);
        ruleOf("((((" + Check.times("-", 36) + "((p", -41);
        ruleOf("(p" + Check.times("+1", 19) + ")", -41);
    }

    private void boat() {
        s.promise(6);
        s.says("Of a BOAT, what 0: PACE, 1: TIRED, 2: PLACE");
        BumpsRiver river = Check.with("19;90;43");
        river.scratches(0);
        s.due("boat 0", river.boat(0, 0) + " " + river.boat(0, 1) + " " + river.boat(0, 2), "1 9 2");
        s.due("boat 1", river.boat(1, 0) + " " + river.boat(1, 1) + " " + river.boat(1, 2), "9 0 0");
        s.due("boat 2", river.boat(2, 0) + " " + river.boat(2, 1) + " " + river.boat(2, 2), "4 3 1");

        s.says("3: the BOAT next ahead by PLACES (NONE)");
        s.due("of the head", river.boat(1, 3), -1);
        s.due("of the next one", river.boat(2, 3), 1);
        s.due("of the last one", river.boat(0, 3), 2);

        s.says("4: the one that it would TOUCH on this DAY (NONE)");
        BumpsRiver six = Check.with(SIX, EdgesOfTerms.ODD_ONES_TOUCH);
        s.due("who touches", six.boat(5, 4), 4);
        s.due("the second one", six.boat(1, 4), 0);
        s.due("who is touched", six.boat(4, 4), -1);
        Check.ruled(six, "0");
        s.due("none touches", six.boat(5, 4), -1);

        s.says("5: the one that would TOUCH it (NONE)");
        s.due("none touches", six.boat(4, 5), -1);
        Check.ruled(six, EdgesOfTerms.ODD_ONES_TOUCH);
        s.due("who is touched", six.boat(4, 5), 5);
        s.due("the head", six.boat(0, 5), 1);
        s.due("who touches", six.boat(5, 5), -1);
        // boat 2 touches boat 1; then boat 3 touches boat 0, which is not the next one ahead by places
        BumpsRiver four = Check.with("10;10;10;10", "(i=0)*9+(i>1)*20");
        four.gap(1);
        s.due("not the next one", four.boat(3, 4) + " " + four.boat(0, 5) + " " + four.boat(3, 3), "0 3 2");

        s.says("NoSuchElementException: none such, another what.");
        s.due("boat(3, 0)", Check.boat(river, 3, 0), Check.THROWN);
        s.due("boat(-1, 0)", Check.boat(river, -1, 0), Check.THROWN);
        s.due("boat(6, 0)", Check.boat(six, 6, 0), Check.THROWN);
        s.due("boat(0, 6)", Check.boat(river, 0, 6), Check.THROWN);
        s.due("boat(0, -1)", Check.boat(river, 0, -1), Check.THROWN);
        s.due("boat(3, 6)", Check.boat(river, 3, 6), Check.THROWN);
        s.due("boat(0, 4) without boats", Check.boat(new BumpsRiver(), 0, 4), Check.THROWN);
        for (int far : FAR) {
            s.due("boat(" + far + ", 2)", Check.boat(river, far, 2), Check.THROWN);
            s.due("boat(2, " + far + ")", Check.boat(river, 2, far), Check.THROWN);
        }
    }

    private void at() {
        s.promise(7);
        s.says("The BOAT on a PLACE.");
        BumpsRiver six = Check.with(SIX);
        six.scratches(2);
        s.due("at(0)", Check.at(six, 0), 0L);
        s.due("at(2)", Check.at(six, 2), 3L);
        s.due("at(5)", Check.at(six, 5), 2L);

        s.says("NoSuchElementException: none such.");
        s.due("at(6)", Check.at(six, 6), Check.THROWN);
        s.due("at(-1)", Check.at(six, -1), Check.THROWN);
        s.due("at(1) of one", Check.at(Check.with("11"), 1), Check.THROWN);
        s.due("at(0) of none", Check.at(new BumpsRiver(), 0), Check.THROWN);
        for (int far : FAR) {
            s.due("at(" + far + ")", Check.at(six, far), Check.THROWN);
        }
    }

    /** A sheet on three boats of pace 5 and what they have then. */
    private void sheetOf(int kind, int n, int f, int step, int want, String paces) {
        BumpsRiver river = Check.with("50;50;50");
        s.due("sheet(" + kind + ", " + n + ", " + f + ", " + step + ")", river.sheet(kind, n, f, step), want);
        s.due("sheet(" + kind + ", " + n + ", " + f + ", " + step + "), PACES",
            river.boat(0, 0) + " " + river.boat(1, 0) + " " + river.boat(2, 0), paces);
    }

    private void sheet() {
        s.promise(8);
        s.says("PACES of BOATS 0, 1, .., as a sheet tells them: bytes (kind 0), shorts (1), ints (2) of n entries "
            + "f, f + step, ..");
        for (int kind = 0; kind <= 2; kind++) {
            sheetOf(kind, 3, 4, 2, 18, "4 6 8");
            sheetOf(kind, 3, 9, -3, 18, "9 6 3");
            sheetOf(kind, 3, 7, 0, 21, "7 7 7");
        }
        BumpsRiver stood = Check.with("50;50;50");
        stood.scratches(0);
        stood.sheet(2, 3, 1, 1);
        s.due("by numbers, not by places", stood.boat(0, 0) + " " + stood.boat(2, 0), "1 3");
        s.due("no act", stood.count(8), 1);

        s.says("(of bytes, shorts the lowest bits, with their sign; put to 1 .. 9)");
        sheetOf(0, 3, 127, 1, 11, "9 1 1");
        sheetOf(0, 3, 256 + 8, 1, 26, "8 9 9");
        sheetOf(0, 3, 0x12345604, 0x100, 12, "4 4 4");
        sheetOf(0, 3, -256, 3, 10, "1 3 6");
        sheetOf(1, 3, 32767, 1, 11, "9 1 1");
        sheetOf(1, 3, 65536 + 8, 1, 26, "8 9 9");
        sheetOf(1, 3, 0x12340004, 0x10000, 12, "4 4 4");
        sheetOf(1, 3, 256, 0, 27, "9 9 9");
        sheetOf(2, 3, 65536, 0, 27, "9 9 9");
        sheetOf(2, 3, Integer.MAX_VALUE, 1, 11, "9 1 1");
        sheetOf(2, 3, Integer.MIN_VALUE, -1, 19, "1 9 9");
        sheetOf(2, 3, -1, 1, 3, "1 1 1");
        sheetOf(2, 3, 9, 1, 27, "9 9 9");
        sheetOf(2, 3, 3, 1431655766, 13, "3 9 1");

        s.says("or a missing one (3)");
        sheetOf(3, 3, 7, 1, -3, "1 1 1");

        s.says("those behind it have 1: the sum of all.");
        sheetOf(2, 0, 7, 1, 3, "1 1 1");
        sheetOf(2, 1, 7, 1, 9, "7 1 1");
        sheetOf(2, 2, 7, 1, 16, "7 8 1");
        sheetOf(2, 4, 2, 1, 9, "2 3 4");
        sheetOf(2, 6, 2, 1, 9, "2 3 4");
        s.due("without boats", new BumpsRiver().sheet(2, 6, 9, 0), 0);

        s.says("-2: n below 0 (of kinds 0 .. 2; nothing changes)");
        for (int kind = 0; kind <= 2; kind++) {
            sheetOf(kind, -1, 7, 1, -2, "5 5 5");
            sheetOf(kind, Integer.MIN_VALUE, 7, 1, -2, "5 5 5");
        }

        s.says("-3: missing (all 1).");
        sheetOf(3, 0, 7, 1, -3, "1 1 1");
        sheetOf(3, 6, 7, 1, -3, "1 1 1");
        sheetOf(3, -1, 7, 1, -3, "1 1 1");
        s.due("without boats", new BumpsRiver().sheet(3, 0, 0, 0), -3);

        s.says("NONE: another kind, n above 6 (these first).");
        sheetOf(4, 3, 7, 1, -1, "5 5 5");
        sheetOf(-1, 3, 7, 1, -1, "5 5 5");
        sheetOf(4, -1, 7, 1, -1, "5 5 5");
        sheetOf(Integer.MIN_VALUE, 0, 7, 1, -1, "5 5 5");
        sheetOf(Integer.MAX_VALUE, 0, 7, 1, -1, "5 5 5");
        for (int kind = 0; kind <= 3; kind++) {
            sheetOf(kind, 7, 7, 1, -1, "5 5 5");
            sheetOf(kind, Integer.MAX_VALUE, 7, 1, -1, "5 5 5");
        }
    }
}
