/** Promises 32 to 39: paces and gaps that matter, and which boat it was. */
final class EdgesOfPaces {
    private static final String THREE = "30;50;40";
    private static final int[] NO_BOATS = {3, -1, 6, Integer.MIN_VALUE, Integer.MAX_VALUE};

    private final Sentences s;

    EdgesOfPaces(Sentences s) {
        this.s = s;
    }

    void check() {
        spurs();
        calm();
        differ();
        helps();
        heard();
        forget();
        fits();
        asks();
    }

    private void spurs() {
        s.promise(32);
        s.says("The least PACE (1 .. 9) by which a BOAT TOUCHES on this DAY: it");
        s.due("less than it has", Check.with(THREE).spurs(1), 4);
        s.due("1", Check.with("90;90", "i*20").spurs(1), 1);
        s.due("2", Check.with("90;10", "(p>1)*i*20").spurs(1), 2);
        s.due("9", Check.with("80;10").spurs(1), 9);
        s.due("not by more than it", Check.with("90;90", "(p=3)*i*20").spurs(1), 3);

        s.says("the ROW: whom, in which stroke.");
        BumpsRiver river = Check.with(THREE);
        s.both("spurs(1)", river, river.spurs(1), 4, 0, 9);
        s.both("spurs(2)", river, river.spurs(2), 8, 1, 3);
        BumpsRiver late = Check.with("10;10", "(t=39)*(p=9)*i*20");
        late.strokes(40);
        s.both("in stroke 40", late, late.spurs(1), 9, 0, 40);
        late.scratches(0);
        s.both("boats, not places", late, late.spurs(0), 9, 1, 40);

        s.says("-2: by none");
        s.due("the head", river.spurs(0), -2);
        s.due("the only one", Check.with("90").spurs(0), -2);
        s.due("10 would do", Check.with("90;10").spurs(1), -2);
        late.strokes(39);
        s.due("a stroke too few", late.spurs(0), -2);

        s.says("NONE: none such.");
        String before = Check.whole(river);
        for (int boat : NO_BOATS) {
            s.due("spurs(" + boat + ")", river.spurs(boat), -1);
        }
        s.due("without boats", new BumpsRiver().spurs(0), -1);
        s.same("none such", river, before);
    }

    private void calm() {
        s.promise(33);
        s.says("The least GAP (1 .. 30) by which none TOUCH on this DAY: it");
        BumpsRiver two = Check.with("10;20");
        s.due("a foot in each of 20 strokes", two.calm(), 21);
        two.strokes(1);
        s.due("a foot in all", two.calm(), 2);
        two.strokes(29);
        s.due("29 feet in all", two.calm(), 30);
        s.due("none touch by any", Check.with("90;10").calm(), 1);
        s.due("one boat", Check.with("90").calm(), 1);
        s.due("without boats", new BumpsRiver().calm(), 1);

        s.says("the ROW: how many GAPS of 30 are so.");
        s.both("30 alone", two, two.calm(), 30, 1);
        two.strokes(1);
        s.both("all but 1", two, two.calm(), 2, 29);
        BumpsRiver none = new BumpsRiver();
        s.both("all", none, none.calm(), 1, 30);
        // with less than 5 feet left boat 1 stops: by gaps of 1 .. 4, and by 21 .. 24 behind one stroke
        BumpsRiver odd = Check.with("10;10", "(g>4)*i*20");
        odd.strokes(2);
        s.both("not all behind the least one", odd, odd.calm(), 1, 8);

        s.says("-2: by none.");
        two.strokes(30);
        String before = Check.whole(two);
        s.due("30 feet in all", two.calm(), -2);
        s.same("30 feet in all", two, before);
    }

    private void differ() {
        s.promise(34);
        s.says("Behind how many DAYS (1 .. 60) BOATS stand otherwise first by a GAP a than by a GAP b (1 .. 30 each) "
            + "from now on: how many");
        BumpsRiver two = Check.with("10;20");
        s.due("differ(20, 21)", two.differ(20, 21), 1);
        s.due("differ(1, 30)", two.differ(1, 30), 1);
        s.due("differ(30, 1)", two.differ(30, 1), 1);
        BumpsRiver slow = Check.with("10;10", "(n=6)*i*9");
        slow.strokes(1);
        s.due("in a week", slow.differ(9, 10), 7);
        BumpsRiver late = sixty();
        s.due("behind 60", late.differ(9, 7), 60);
        s.due("behind 60, day by day", differByDays(9, 7), 60);

        s.says("the ROW: the first PLACE that is another BOAT's, by a, by b whose.");
        s.both("differ(20, 21)", two, two.differ(20, 21), 1, 0, 1, 0);
        s.both("differ(21, 20)", two, two.differ(21, 20), 1, 0, 0, 1);
        BumpsRiver six = Check.with("10;10;10;10;10;10", "(i=5)*9");
        six.strokes(1);
        s.both("the last places", six, six.differ(9, 10), 1, 4, 5, 4);
        s.both("the last places, round", six, six.differ(10, 9), 1, 4, 4, 5);

        s.says("-2: behind none");
        String before = Check.whole(six);
        s.due("differ(10, 11)", six.differ(10, 11), -2);
        s.due("differ(9, 9)", six.differ(9, 9), -2);
        s.due("without boats", new BumpsRiver().differ(1, 30), -2);
        s.due("one boat", Check.with("11").differ(1, 30), -2);
        BumpsRiver never = Check.with("17;71;44;21;19;84", "(p*n+x*3)/9");
        never.strokes(31);
        s.due("behind 61", never.differ(28, 17), -2);
        s.same("behind none", six, before);

        s.says("NONE: others.");
        int[] others = {0, 31, -1, Integer.MIN_VALUE, Integer.MAX_VALUE};
        for (int gap : others) {
            s.due("differ(" + gap + ", 1)", six.differ(gap, 1), -1);
            s.due("differ(1, " + gap + ")", six.differ(1, gap), -1);
            s.due("differ(" + gap + ", " + gap + ")", six.differ(gap, gap), -1);
        }
        s.due("without boats", new BumpsRiver().differ(0, 1), -1);
        s.same("others", six, before);
    }

    private static BumpsRiver sixty() {
        BumpsRiver river = Check.with("48;65;46;30;51;67", "p-x/2+(n=3)*i");
        river.strokes(24);
        return river;
    }

    private static int differByDays(int a, int b) {
        BumpsRiver one = sixty();
        one.gap(a);
        BumpsRiver other = sixty();
        other.gap(b);
        for (int day = 1; day <= 60; day++) {
            one.days(1);
            other.days(1);
            if (!Check.order(one).equals(Check.order(other))) {
                return day;
            }
        }
        return -2;
    }

    private void helps() {
        s.promise(35);
        s.says("The BOAT that is to be rested now so that a BOAT stands on the least PLACE behind n DAYS (1 .. 30), "
            + "if nothing else is done");
        // by a gap of 30 boat 1 touches only if it is rested
        BumpsRiver river = Check.with("10;49");
        river.gap(30);
        s.due("itself, so that it touches", river.helps(1, 1), 1);
        s.due("itself, so that it is not touched", Check.with("59;40").helps(0, 1), 0);
        s.due("itself, tired by 1", Check.with("10;11", "(i=1)*(x=0)*20").helps(1, 1), 1);
        // boat 2, if it is rested, touches boat 1 before that one touches boat 0
        s.due("another one", Check.with("30;40;99", "p-x").helps(0, 1), 2);
        s.due("behind 30", helpsByDays("49;66;51", 1, 30), Check.with("49;66;51").helps(1, 30));
        s.due("behind 30, the last one", helpsByDays("49;59;59", 2, 30), Check.with("49;59;59").helps(2, 30));

        s.says("of equal ones the first: it");
        s.due("none helps", Check.with("11;91").helps(0, 1), 0);
        s.due("none is tired", Check.with("30;50;40").helps(2, 1), 0);
        s.due("the only one", Check.with("11").helps(0, 30), 0);
        // boat 1 touches boat 0 in stroke 2, but not if it is rested, nor if boat 2 is and touches it in stroke 1
        s.due("the second or the third one", Check.with("90;59;59", "(t=1)*(i=1)*(x>0)*20+(i=2)*(x=0)*20").helps(0, 1),
            1);

        s.says("the ROW: that PLACE, the one without.");
        s.both("helps(1, 1)", river, river.helps(1, 1), 1, 0, 1);
        s.both("helps(0, 1)", river, river.helps(0, 1), 0, 0, 0);
        BumpsRiver lost = Check.with("11;91");
        s.both("none helps", lost, lost.helps(0, 1), 0, 1, 1);

        s.says("NONE: others.");
        String before = Check.whole(lost);
        int[] others = {0, 31, -1, Integer.MIN_VALUE, Integer.MAX_VALUE};
        for (int n : others) {
            s.due("helps(0, " + n + ")", lost.helps(0, n), -1);
        }
        for (int boat : NO_BOATS) {
            s.due("helps(" + boat + ", 1)", lost.helps(boat, 1), -1);
        }
        s.due("helps(2, 1) of two", lost.helps(2, 1), -1);
        s.due("without boats", new BumpsRiver().helps(0, 1), -1);
        s.same("others", lost, before);
    }

    /** Rests each one in turn and races on: who helps the boat to the least place. */
    private static int helpsByDays(String boats, int boat, int n) {
        int least = 6;
        int helper = -1;
        for (int rested = 0; 3 * rested < boats.length(); rested++) {
            BumpsRiver river = Check.with(boats);
            river.rests(rested);
            river.days(n);
            if (river.boat(boat, 2) < least) {
                least = river.boat(boat, 2);
                helper = rested;
            }
        }
        return helper;
    }

    private void heardRange(int what, int least, int most) {
        BumpsRiver river = Check.with(THREE);
        s.due("heard(" + what + ", " + (least - 1) + ")", river.heard(what, least - 1), -1);
        s.due("heard(" + what + ", " + least + ")", river.heard(what, least), 1);
        s.due("heard(" + what + ", " + most + ")", river.heard(what, most), 2);
        s.due("heard(" + what + ", " + (most + 1) + ")", river.heard(what, most + 1), -1);
        s.due("heard(" + what + ", min)", river.heard(what, Integer.MIN_VALUE), -1);
        s.due("heard(" + what + ", max)", river.heard(what, Integer.MAX_VALUE), -1);
        s.due("what was heard", river.count(7), 2);
    }

    private void heardOf(int what, int v, int fitting) {
        BumpsRiver river = Check.with("33;55;44");
        river.heard(what, v);
        s.due("who fits heard(" + what + ", " + v + ")", river.fits(), fitting);
    }

    private void heard() {
        s.promise(36);
        s.says("It was heard of a BOAT that, what 0: PACE is v (1 .. 9) or more");
        heardRange(0, 1, 9);
        heardOf(0, 3, 7);
        heardOf(0, 4, 6);
        heardOf(0, 5, 2);
        heardOf(0, 6, 0);

        s.says("1: TIRED is v (0 .. 9) or more");
        heardRange(1, 0, 9);
        heardOf(1, 0, 7);
        heardOf(1, 3, 7);
        heardOf(1, 4, 6);
        heardOf(1, 6, 0);

        s.says("2: PLACE is v (0 .. 5) or less");
        heardRange(2, 0, 5);
        heardOf(2, 0, 1);
        heardOf(2, 1, 3);
        heardOf(2, 2, 7);
        heardOf(2, 5, 7);

        s.says("3: it TOUCHES (1) on this DAY or not (0)");
        heardRange(3, 0, 1);
        heardOf(3, 1, 2);
        heardOf(3, 0, 5);

        s.says("4: it is TOUCHED (1) or not (0)");
        heardRange(4, 0, 1);
        heardOf(4, 1, 1);
        heardOf(4, 0, 6);

        s.says("how many such.");
        BumpsRiver river = new BumpsRiver();
        for (int i = 1; i <= 12; i++) {
            s.due("one more", river.heard(i % 3, i % 5 + 1), i);
        }

        s.says("Refused: others, 12.");
        s.due("the thirteenth", river.heard(0, 1), -1);
        s.due("what was heard", river.count(7), 12);
        river.forget();
        s.due("it is forgotten", river.heard(0, 1), 1);
        int[] others = {5, -1, Integer.MIN_VALUE, Integer.MAX_VALUE};
        for (int what : others) {
            s.due("heard(" + what + ", 1)", river.heard(what, 1), -1);
        }
        s.due("what was heard then", river.count(7), 1);
    }

    private void forget() {
        s.promise(37);
        s.says("It is forgotten: how many there were.");
        BumpsRiver river = Check.with(THREE);
        s.due("none", river.forget(), 0);
        river.heard(0, 5);
        river.heard(3, 1);
        s.due("two", river.forget(), 2);
        s.due("what was heard", river.count(7), 0);
        s.due("all fit again", river.fits(), 7);
        s.due("none again", river.forget(), 0);
        for (int i = 0; i < 12; i++) {
            river.heard(0, 9);
        }
        s.due("twelve", river.forget(), 12);
    }

    private void fits() {
        s.promise(38);
        s.says("BOATS (bits) that fit all that was heard");
        BumpsRiver river = Check.with("33;55;44");
        s.due("nothing heard", river.fits(), 7);
        river.heard(0, 4);
        river.heard(1, 4);
        s.due("two of three", river.fits(), 6);
        river.heard(3, 1);
        s.due("one of three", river.fits(), 2);
        river.heard(4, 1);
        s.due("none of three", river.fits(), 0);
        river.forget();
        river.heard(2, 0);
        river.days(1);
        s.due("by how it is now", river.fits(), 2);
        for (int i = 1; i < 12; i++) {
            river.heard(1, 0);
        }
        s.due("by all of twelve", river.fits(), 2);
        BumpsRiver last = Check.first(6);
        for (int i = 0; i < 11; i++) {
            last.heard(1, 0);
        }
        last.heard(0, 6);
        s.due("by the twelfth", last.fits(), 32);

        s.says("the ROW: how many.");
        s.both("one", last, last.fits(), 32, 1);
        last.forget();
        s.both("six", last, last.fits(), 63, 6);
        BumpsRiver none = new BumpsRiver();
        s.both("without boats", none, none.fits(), 0, 0);
    }

    private void asks() {
        s.promise(39);
        s.says("What to ask next, so that, it is so or not, the fewest such BOATS are left at most: 10 times what "
            + "and v, as they may be heard");
        s.due("of three, by PACE", Check.with(THREE).asks(), 4);
        s.due("of two, by PACE 9", Check.with("80;90").asks(), 9);
        s.due("by TIRED", Check.with("50;55").asks(), 11);
        s.due("by TIRED 9", Check.with("58;59").asks(), 19);
        s.due("by PLACE", Check.with("50;50;50;50").asks(), 21);
        s.due("by PLACE 0", Check.with("55;55", "0").asks(), 20);

        s.says("of equal ones the least");
        s.due("2 .. 9 halve them alike", Check.with("10;90").asks(), 2);
        s.due("one boat", Check.with("50").asks(), 1);
        s.due("one boat, of 9", Check.with("99").asks(), 1);

        s.says("the ROW: how many at most.");
        BumpsRiver six = Check.with("10;10;10;50;90;90");
        s.both("three of six", six, six.asks(), 2, 3);
        six.heard(0, 5);
        s.both("two of three", six, six.asks(), 6, 2);
        six.heard(0, 9);
        s.both("one of two", six, six.asks(), 24, 1);
        six.heard(2, 4);
        s.both("one", six, six.asks(), 1, 1);

        s.says("-2: none fits.");
        six.heard(4, 1);
        six.heard(4, 0);
        String before = Check.whole(six);
        s.due("against each other", six.asks(), -2);
        s.same("against each other", six, before);
        s.due("without boats", new BumpsRiver().asks(), -2);
    }
}
