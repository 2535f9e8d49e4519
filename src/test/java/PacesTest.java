/** Promises 32 to 44: paces, gaps, rumours, chances, the game, laws, crews, years. */
public final class PacesTest {
    private static final Check CHECK = new Check("paces");

    public static void main(String[] args) {
        spurs();
        calm();
        differ();
        helps();
        heardAndForget();
        fits();
        asks();
        likely();
        pulls();
        law();
        crews();
        years();
        CHECK.finish();
    }

    private static void spurs() {
        BumpsRiver river = Check.with("30;50;40");
        CHECK.both("spurs(1)", river, river.spurs(1), 4, 0, 9);
        CHECK.both("spurs(2)", river, river.spurs(2), 8, 1, 3);
        CHECK.due("spurs(0)", river.spurs(0), -2);
        CHECK.row("by none: the row stays", river, 1, 3);
        CHECK.due("spurs(3)", river.spurs(3), -1);
        CHECK.due("spurs(-1)", river.spurs(-1), -1);
        CHECK.due("PACE stays", river.boat(2, 0) + river.boat(1, 0), 9);
        BumpsRiver fast = Check.with("80;10");
        CHECK.both("9 is needed", fast, fast.spurs(1), 9, 0, 9);
        BumpsRiver slow = Check.with("90;10");
        CHECK.due("9 is too little", slow.spurs(1), -2);
        Check.rule(slow, "i*20");
        CHECK.both("1 is enough", slow, slow.spurs(1), 1, 0, 1);
    }

    private static void calm() {
        BumpsRiver river = Check.with("10;20");
        CHECK.both("a foot in each stroke", river, river.calm(), 21, 10);
        river.strokes(5);
        CHECK.both("five strokes", river, river.calm(), 6, 25);
        CHECK.due("GAP stays", river.count(1), 9);
        river.strokes(30);
        CHECK.due("by none", river.calm(), -2);
        CHECK.row("by none: the row stays", river, 25);
        river.strokes(29);
        CHECK.both("30 alone", river, river.calm(), 30, 1);
        BumpsRiver still = Check.with("90;10");
        CHECK.both("all", still, still.calm(), 1, 30);
    }

    private static void differ() {
        BumpsRiver river = Check.with("10;20");
        CHECK.both("differ(20, 21)", river, river.differ(20, 21), 1, 0, 1, 0);
        CHECK.both("differ(21, 20)", river, river.differ(21, 20), 1, 0, 0, 1);
        CHECK.both("differ(1, 30)", river, river.differ(1, 30), 1, 0, 1, 0);
        CHECK.both("differ(30, 1)", river, river.differ(30, 1), 1, 0, 0, 1);
        CHECK.due("differ(21, 22)", river.differ(21, 22), -2);
        CHECK.due("differ(5, 5)", river.differ(5, 5), -2);
        CHECK.row("behind none: the row stays", river, 0, 0, 1);
        CHECK.due("differ(0, 1)", river.differ(0, 1), -1);
        CHECK.due("differ(1, 0)", river.differ(1, 0), -1);
        CHECK.due("differ(31, 1)", river.differ(31, 1), -1);
        CHECK.due("differ(1, 31)", river.differ(1, 31), -1);
        CHECK.due("GAP stays", river.count(1), 9);
        BumpsRiver three = Check.with("30;50;40");
        CHECK.both("differ(9, 30)", three, three.differ(9, 30), 2, 1, 2, 0);
    }

    private static void helps() {
        // by a gap of 30 boat 1 touches only if it is rested
        BumpsRiver river = Check.with("10;49");
        river.gap(30);
        CHECK.both("helps(1, 1)", river, river.helps(1, 1), 1, 0, 1);
        CHECK.both("helps(0, 1)", river, river.helps(0, 1), 0, 0, 0);
        CHECK.due("helps(1, 0)", river.helps(1, 0), -1);
        CHECK.due("helps(1, 31)", river.helps(1, 31), -1);
        CHECK.due("helps(2, 1)", river.helps(2, 1), -1);
        CHECK.due("helps(-1, 1)", river.helps(-1, 1), -1);
        CHECK.due("TIRED stays", river.boat(1, 1), 9);
        // as the one ahead grows tired, boat 1 touches it without help
        CHECK.both("helps(1, 30)", river, river.helps(1, 30), 0, 0, 0);
        // whoever is rested, boat 0 loses its place: the first one is told
        BumpsRiver lost = Check.with("11;91");
        CHECK.both("of equal ones the first", lost, lost.helps(0, 1), 0, 1, 1);
        // to rest one that is tired by 1 is enough
        BumpsRiver barely = Check.with("10;31");
        Check.rule(barely, "p-x");
        barely.gap(30);
        CHECK.both("TIRED 1", barely, barely.helps(1, 1), 1, 0, 1);
        // boat 0 itself: tired it is touched, rested it is not
        BumpsRiver itself = Check.with("59;40");
        CHECK.both("itself", itself, itself.helps(0, 1), 0, 0, 1);
        // boat 2, if it is rested, touches boat 1 before that one touches boat 0
        BumpsRiver saved = Check.with("30;40;99");
        Check.rule(saved, "p-x");
        CHECK.both("another one", saved, saved.helps(0, 1), 2, 0, 1);
    }

    private static void heardAndForget() {
        BumpsRiver river = Check.with("30;50;40");
        int[][] wrong = {{0, 0}, {0, 10}, {1, -1}, {1, 10}, {2, -1}, {2, 6}, {3, -1}, {3, 2}, {4, -1}, {4, 2},
            {5, 0}, {-1, 1}, {5, 1}};
        for (int[] each : wrong) {
            CHECK.due("heard(" + each[0] + ", " + each[1] + ")", river.heard(each[0], each[1]), -1);
        }
        int[][] right = {{0, 1}, {0, 9}, {1, 0}, {1, 9}, {2, 0}, {2, 5}, {3, 0}, {3, 1}, {4, 0}, {4, 1}, {0, 1}, {0, 5}};
        for (int i = 0; i < right.length; i++) {
            CHECK.due("heard", river.heard(right[i][0], right[i][1]), i + 1);
        }
        CHECK.due("heard, the thirteenth", river.heard(0, 1), -1);
        CHECK.due("count(7)", river.count(7), 12);
        CHECK.due("forget", river.forget(), 12);
        CHECK.due("forget again", river.forget(), 0);
        CHECK.due("count(7) then", river.count(7), 0);
        CHECK.due("no row", river.count(9), 0);
    }

    private static void fit(String name, int bits, int... rumours) {
        BumpsRiver river = Check.with("30;53;41");
        for (int i = 0; i < rumours.length; i += 2) {
            river.heard(rumours[i], rumours[i + 1]);
        }
        CHECK.both("fits, " + name, river, river.fits(), bits, Integer.bitCount(bits));
    }

    private static void fits() {
        fit("nothing heard", 7);
        fit("PACE", 6, 0, 4);
        fit("PACE, just so", 2, 0, 5);
        fit("PACE, none", 0, 0, 6);
        fit("TIRED", 6, 1, 1);
        fit("TIRED 0", 7, 1, 0);
        fit("PLACE", 3, 2, 1);
        fit("PLACE 5", 7, 2, 5);
        fit("touches", 2, 3, 1);
        fit("touches not", 5, 3, 0);
        fit("is touched", 1, 4, 1);
        fit("is not touched", 6, 4, 0);
        fit("both", 4, 3, 0, 4, 0);
        fit("against each other", 0, 3, 0, 3, 1);
        BumpsRiver river = Check.with("30;50;40");
        river.heard(2, 0);
        CHECK.due("now", river.fits(), 1);
        river.days(1);
        CHECK.due("later", river.fits(), 2);
        BumpsRiver none = new BumpsRiver();
        CHECK.both("without boats", none, none.fits(), 0, 0);
    }

    private static void asks() {
        BumpsRiver river = Check.with("30;50;40");
        CHECK.both("of three", river, river.asks(), 4, 2);
        river.heard(0, 4);
        CHECK.both("of two", river, river.asks(), 5, 1);
        river.heard(0, 5);
        CHECK.both("of one: the least", river, river.asks(), 1, 1);
        river.heard(0, 6);
        CHECK.due("none fits", river.asks(), -2);
        CHECK.row("none fits: the row stays", river, 1);
        BumpsRiver tired = Check.with("50;55");
        CHECK.both("by TIRED", tired, tired.asks(), 11, 1);
        BumpsRiver nines = Check.with("80;90");
        CHECK.both("by the greatest PACE", nines, nines.asks(), 9, 1);
        BumpsRiver places = Check.with("50;50;50;50");
        CHECK.both("by PLACE", places, places.asks(), 21, 2);
        CHECK.due("no boats", new BumpsRiver().asks(), -2);
    }

    private static void likely() {
        // boat 1 touches if it alone rows better
        BumpsRiver river = Check.with("10;10");
        CHECK.both("likely(1, 5)", river, river.likely(1, 5), 0, 1, 4);
        CHECK.both("likely(1, 3)", river, river.likely(1, 3), 0, 21, 100);
        CHECK.both("likely(1, 0)", river, river.likely(1, 0), 0, 0, 1);
        CHECK.both("likely(1, 10)", river, river.likely(1, 10), 0, 0, 1);
        CHECK.both("likely(0, 5)", river, river.likely(0, 5), 0, 0, 1);
        CHECK.due("likely(1, 11)", river.likely(1, 11), -1);
        CHECK.due("likely(1, -1)", river.likely(1, -1), -1);
        CHECK.due("likely(2, 5)", river.likely(2, 5), -1);
        CHECK.due("likely(-1, 5)", river.likely(-1, 5), -1);
        CHECK.row("refused: the row stays", river, 0, 1);
        BumpsRiver nines = Check.with("90;90");
        CHECK.both("a pace of 10", nines, nines.likely(1, 5), 0, 1, 4);
        CHECK.due("PACE stays", nines.count(5), 18);
        BumpsRiver sure = Check.with("10;90");
        CHECK.both("for sure", sure, sure.likely(1, 7), 0, 1, 1);
        BumpsRiver six = Check.with("10;10;10;10;10;10");
        Check.rule(six, "(i=1)*(p-1)*20");
        CHECK.both("of six", six, six.likely(1, 1), 0, 1, 10);
    }

    private static void pulls() {
        for (int k = 2; k <= 9; k++) {
            CHECK.due("pulls(0, " + k + ")", new BumpsRiver().pulls(0, k), 0);
        }
        BumpsRiver river = new BumpsRiver();
        int[] two = {0, 0, 1, 2, 0, 1, 2, 0};
        for (int n = 0; n < two.length; n++) {
            CHECK.due("pulls(" + n + ", 2)", river.pulls(n, 2), two[n]);
        }
        CHECK.due("pulls(60, 9)", river.pulls(60, 9), 9);
        CHECK.due("pulls(60, 2)", river.pulls(60, 2), 2);
        CHECK.due("pulls(51, 9)", river.pulls(51, 9), 0);
        CHECK.due("pulls(61, 2)", river.pulls(61, 2), -1);
        CHECK.due("pulls(-1, 2)", river.pulls(-1, 2), -1);
        CHECK.due("pulls(5, 1)", river.pulls(5, 1), -1);
        CHECK.due("pulls(5, 10)", river.pulls(5, 10), -1);
        CHECK.due("no row", river.count(9), 0);
    }

    private static void law() {
        BumpsRiver river = Check.with("30;50;40");
        CHECK.both("law(0)", river, Check.law(river, "0"), -1, 0, 1, 0, 1, 2);
        CHECK.both("law()", river, Check.law(river, ""), 0, 1, 1, 1, 0, 2);
        CHECK.both("law(i*9)", river, Check.law(river, "i*9"), 0, 1, 1, 1, 0, 2);
        Check.rule(river, "0");
        CHECK.both("law(), by another rule", river, Check.law(river, ""), 1, 1, 0, 1, 0, 2);
        CHECK.due("the rule stays", river.race(), 0);
        CHECK.due("law(z)", Check.law(river, "z"), -10000);
        CHECK.due("law(p+)", Check.law(river, "p+"), -10002);
        CHECK.due("law, too long", Check.law(river, new String(new char[41]).replace('\0', '-')), -10040);
        CHECK.due("the text is empty", river.count(10), 0);
        CHECK.due("the rule stays", river.race(), 0);
        CHECK.due("nothing changes", river.count(3) + river.count(4) + river.at(0), 0);
        BumpsRiver none = new BumpsRiver();
        CHECK.both("without boats", none, Check.law(none, "p"), 0, 0, 0);
    }

    private static void crews() {
        BumpsRiver river = new BumpsRiver();
        CHECK.both("crews(0)", river, river.crews(0), 2, 0, 0);
        // 0 0, 1 1, 0 1 and 1 0
        CHECK.both("crews(1)", river, river.crews(1), 4, 0, 0);
        for (int v = 2; v <= 20; v++) {
            CHECK.both("crews(" + v + ")", river, river.crews(v), 0);
        }
        CHECK.due("crews(21)", river.crews(21), -1);
        CHECK.due("crews(-1)", river.crews(-1), -1);
    }

    private static void years() {
        BumpsRiver river = Check.with("30;50;40");
        // the first draw of seed 1 is 16838: a pace; of seed 0 it is 0: a day
        CHECK.both("years(1, 1)", river, river.years(1, 1), 0, 0, 0);
        CHECK.both("years(0, 1)", river, river.years(0, 1), 1, 1, 1);
        CHECK.due("years(1, 0)", river.years(1, 0), -2);
        CHECK.due("years(1, 61)", river.years(1, 61), -2);
        CHECK.due("years(1, -1)", river.years(1, -1), -2);
        CHECK.row("refused: the row stays", river, 1, 1);
        PlainRiver plain = new PlainRiver();
        plain.text = "30;50;40";
        plain.call("boats");
        for (int seed = -40; seed < 40; seed++) {
            int n = 1 + Math.floorMod(seed * 7, 60);
            CHECK.due("years(" + seed * 99991 + ", " + n + ")", (long) river.years(seed * 99991, n),
                plain.call("years", seed * 99991, n));
            CHECK.row("its row", river, plain.row.get(0), plain.row.get(1));
        }
        CHECK.due("nothing changes", river.count(3) + river.count(4) + river.count(8), 0);
        CHECK.due("PACES stay", river.count(5), 12);
        BumpsRiver one = Check.with("30");
        PlainRiver plainOne = new PlainRiver();
        plainOne.text = "30";
        plainOne.call("boats");
        for (int seed = 0; seed < 20; seed++) {
            CHECK.due("years of one boat", (long) one.years(seed, 30), plainOne.call("years", seed, 30));
            CHECK.row("its row", one, plainOne.row.get(0), plainOne.row.get(1));
        }
        BumpsRiver none = new BumpsRiver();
        CHECK.both("without boats", none, none.years(7, 60), -1, 0, 0);
    }
}
