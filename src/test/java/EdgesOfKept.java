/** Promises 45 to 48: what is kept, counted and told. */
final class EdgesOfKept {
    private static final int[] OTHERS = {-1, 3, Integer.MIN_VALUE, Integer.MAX_VALUE};

    private final Sentences s;

    EdgesOfKept(Sentences s) {
        this.s = s;
    }

    void check() {
        keep();
        again();
        count();
        row();
    }

    private void keep() {
        s.promise(45);
        s.says("What undo() brings back is kept under a number 0 .. 2: true.");
        BumpsRiver river = Check.with("39;52;40");
        String[] states = new String[3];
        for (int i = 0; i < 3; i++) {
            states[i] = Check.state(river);
            s.due("keep(" + i + ")", river.keep(i), true);
            Check.week(river, "n2s" + i + "r2p1" + (7 + i) + "g1" + i + "k3" + i + "n1");
        }
        for (int i = 2; i >= 0; i--) {
            river.again(i);
            s.due("what was kept under " + i, Check.state(river), states[i]);
        }
        river.gap(25);
        s.due("keep(1) once more", river.keep(1), true);
        river.gap(26);
        river.again(1);
        s.due("the later one", river.count(1), 25);
        s.due("without boats", new BumpsRiver().keep(0), true);

        s.says("Refused: others.");
        String before = Check.whole(river);
        for (int i : OTHERS) {
            s.due("keep(" + i + ")", river.keep(i), false);
        }
        s.same("others", river, before);
    }

    private void again() {
        s.promise(46);
        s.says("It is as it was kept under a number.");
        BumpsRiver river = Check.with("39;52;40");
        Check.week(river, "n2g07k33");
        String kept = Check.state(river);
        river.keep(2);
        river.sheet(2, 3, 9, 0);
        Check.week(river, "n9s1g08");
        river.heard(0, 1);
        river.sign(0x30303030);
        river.race();
        String row = Check.rowOf(river);
        s.due("again(2)", river.again(2), true);
        s.due("as it was", Check.state(river), kept);
        s.due("nothing can be undone", river.count(8), 0);
        s.due("what stays", river.count(7) + " " + river.count(10) + " " + Check.rowOf(river), "1 4 " + row);
        river.days(9);
        s.due("again(2), a second time", river.again(2) + Check.state(river), "true" + kept);
        Check.ruled(river, "7");
        river.again(2);
        s.due("the rule stays", river.lies(river.at(0), 1), 1007);

        s.says("Refused: nothing kept, BOATS came since.");
        String before = Check.whole(river);
        s.due("again(0)", river.again(0), false);
        s.due("again(1)", river.again(1), false);
        for (int i : OTHERS) {
            s.due("again(" + i + ")", river.again(i), false);
        }
        s.same("nothing kept", river, before);
        s.due("of a new object", new BumpsRiver().again(0), false);
        Check.boats(river, "");
        s.due("an empty boats()", river.again(2), true);
        Check.boats(river, "11;2");
        s.due("a wrong boats()", river.again(2), true);
        Check.boats(river, "11;11;11;11");
        s.due("boats() without room", river.again(2), true);
        river.keep(0);
        river.gap(20);
        Check.boats(river, "11");
        before = Check.whole(river);
        s.due("boats() came, again(0)", river.again(0), false);
        s.due("boats() came, again(2)", river.again(2), false);
        s.same("boats() came", river, before);
        river.keep(0);
        s.due("kept since", river.again(0), true);
        s.due("kept ahead of them", river.again(2), false);
    }

    private void count() {
        s.promise(47);
        s.says("What 0: BOATS, 1: GAP, 2: STROKES, 3: DAY, 4: TOUCHES, 5: PACES added up, 6: TIRED of all");
        BumpsRiver river = Check.with("39;52;46");
        river.days(1);
        river.gap(30);
        river.strokes(40);
        int[] want = {3, 30, 40, 1, river.count(4), 12, river.boat(0, 1) + river.boat(1, 1) + river.boat(2, 1)};
        for (int what = 0; what < want.length; what++) {
            s.due("count(" + what + ")", river.count(what), want[what]);
        }
        BumpsRiver most = Check.with("99;99;99;99;99;99");
        s.due("the most of each", most.count(0) + " " + most.count(5) + " " + most.count(6), "6 54 54");
        BumpsRiver none = new BumpsRiver();
        int[] first = {0, 9, 20, 0, 0, 0, 0, 0, 0, 0, 0};
        for (int what = 0; what < first.length; what++) {
            s.due("count(" + what + ") of a new object", none.count(what), first[what]);
        }
        s.due("a touch", touched().count(4), 1);

        s.says("7: what was heard");
        river.heard(0, 1);
        river.heard(0, 0);
        river.heard(0, 1);
        s.due("two", river.count(7), 2);

        s.says("8: what can be undone");
        s.due("three", river.count(8), 3);
        river.undo();
        s.due("two", river.count(8), 2);

        s.says("9: numbers of the ROW");
        river.over();
        s.due("of over()", river.count(9), 2);
        river.head(river.at(0));
        s.due("of head()", river.count(9), 1);
        BumpsRiver six = Check.with("10;10;10;10;10;10", EdgesOfTerms.ODD_ONES_TOUCH);
        six.race();
        s.due("of race(), the most", six.count(9), 9);
        Check.law(six, "0");
        s.due("of law()", six.count(9), 8);
        Check.ruled(six, "0");
        six.race();
        s.due("of race() by which none touch", six.count(9), 0);

        s.says("10: signs of THE TEXT.");
        river.sign(0);
        s.due("four", river.count(10), 4);
        river.end(3);
        s.due("three", river.count(10), 3);
        for (int i = 0; i < 30; i++) {
            river.sign(0);
        }
        s.due("79, as 83 would be too many", river.count(10), 79);

        s.says("-100 for another what.");
        int[] others = {11, -1, Integer.MIN_VALUE, Integer.MAX_VALUE};
        for (int what : others) {
            s.due("count(" + what + ")", river.count(what), -100);
        }
    }

    private static BumpsRiver touched() {
        BumpsRiver river = Check.with("30;50;40");
        river.days(1);
        return river;
    }

    private void row() {
        s.promise(48);
        s.says("Number i of the ROW.");
        BumpsRiver river = Check.with("30;50;40");
        river.race();
        s.due("row(0)", Check.row(river, 0), 5L);
        s.due("row(1)", Check.row(river, 1), 1L);
        s.due("row(2)", Check.row(river, 2), 0L);
        BumpsRiver six = Check.with("10;10;10;10;10;10", EdgesOfTerms.ODD_ONES_TOUCH);
        six.race();
        s.due("row(8)", Check.row(six, 8), 4L);
        river.head(0);
        s.due("NONE as a number", Check.row(river, 0), -1L);

        s.says("NoSuchElementException: none such.");
        s.due("row(1) of one", Check.row(river, 1), Check.THROWN);
        s.due("row(2), of a longer one that was told ahead of it", Check.row(river, 2), Check.THROWN);
        s.due("row(9) of nine", Check.row(six, 9), Check.THROWN);
        s.due("row(-1)", Check.row(six, -1), Check.THROWN);
        s.due("row(min)", Check.row(six, Integer.MIN_VALUE), Check.THROWN);
        s.due("row(max)", Check.row(six, Integer.MAX_VALUE), Check.THROWN);
        s.due("row(0), none told", Check.row(new BumpsRiver(), 0), Check.THROWN);
        Check.ruled(six, "0");
        six.race();
        s.due("row(0), nothing told", Check.row(six, 0), Check.THROWN);
    }
}
