/** Promises 26 to 31: lawful sets, orders that can stand, charts. */
public final class CanBeTest {
    private static final Check CHECK = new Check("can be");

    public static void main(String[] args) {
        sets();
        orders();
        best();
        soonest();
        crossed();
        chart();
        CHECK.finish();
    }

    private static void sets() {
        int[] sets = {1, 1, 2, 3, 6, 10, 20};
        long[] most = {0, 0, 1, 1, 2, 2, 3};
        long[] such = {1, 1, 1, 2, 2, 5, 5};
        for (int n = 0; n <= 6; n++) {
            BumpsRiver river = Check.first(n);
            CHECK.both("sets of " + n, river, river.sets(), sets[n], most[n], such[n]);
        }
        BumpsRiver grows = Check.first(2);
        grows.sets();
        Check.boats(grows, "11");
        CHECK.both("sets when a boat came", grows, grows.sets(), 3, 1, 2);
    }

    private static void orders() {
        int[] three = {1, 3, 5, 6, 6, 6, 6};
        long[] fresh = {1, 2, 2, 1, 0, 0, 0};
        BumpsRiver river = Check.first(3);
        for (int d = 0; d <= 6; d++) {
            CHECK.both("orders(" + d + ")", river, river.orders(d), three[d], fresh[d]);
        }
        CHECK.due("orders(7)", river.orders(7), -1);
        CHECK.due("orders(-1)", river.orders(-1), -1);
        CHECK.row("refused: the row stays", river, 0);
        river.scratches(0);
        CHECK.both("another order now", river, river.orders(1), 3, 2);
        BumpsRiver two = Check.first(2);
        CHECK.both("orders of two", two, two.orders(6), 2, 0);
        BumpsRiver six = Check.first(6);
        CHECK.both("orders of six, none", six, six.orders(0), 1, 1);
        CHECK.both("orders of six, one day", six, six.orders(1), 20, 19);
        CHECK.due("orders of six, six days", six.orders(6), 720);
        BumpsRiver none = Check.first(0);
        CHECK.both("orders of none", none, none.orders(6), 1, 0);
    }

    private static void best() {
        BumpsRiver river = Check.first(3);
        CHECK.both("best(2, 0)", river, river.best(2, 0), 2, 2, 1);
        CHECK.both("best(2, 1)", river, river.best(2, 1), 1, 2, 1);
        CHECK.both("best(0, 1)", river, river.best(0, 1), 0, 1, 2);
        CHECK.both("best(2, 2)", river, river.best(2, 2), 0, 2, 1);
        CHECK.both("best(2, 6)", river, river.best(2, 6), 0, 2, 2);
        river.scratches(0);
        CHECK.both("by places, not boats", river, river.best(0, 1), 1, 2, 1);
        // outermost pair with two ways to fill the four places between
        BumpsRiver six = Check.first(6);
        CHECK.both("best(5, 1) of six", six, six.best(5, 1), 0, 5, 2);
        CHECK.both("best(4, 1) of six", six, six.best(4, 1), 1, 5, 2);
        CHECK.due("best(3, 0)", river.best(3, 0), -1);
        CHECK.due("best(-1, 0)", river.best(-1, 0), -1);
        CHECK.due("best(0, 7)", river.best(0, 7), -1);
        CHECK.due("best(0, -1)", river.best(0, -1), -1);
    }

    private static void soonest() {
        BumpsRiver river = Check.first(3);
        String[] texts = {"012", "102", "021", "120", "201", "210"};
        int[] days = {0, 1, 1, 2, 2, 3};
        for (int i = 0; i < texts.length; i++) {
            CHECK.due("soonest(" + texts[i] + ")", Check.soonest(river, texts[i]), days[i]);
            CHECK.due("the text is empty", river.count(10), 0);
        }
        CHECK.due("no row", river.count(9), 0);
        CHECK.due("soonest()", Check.soonest(river, ""), -1);
        CHECK.due("soonest(01)", Check.soonest(river, "01"), -3);
        CHECK.due("soonest(013)", Check.soonest(river, "013"), -3);
        CHECK.due("soonest(010)", Check.soonest(river, "010"), -3);
        CHECK.due("soonest(0120)", Check.soonest(river, "0120"), -4);
        CHECK.due("soonest(012;)", Check.soonest(river, "012;"), -4);
        CHECK.due("soonest(x)", Check.soonest(river, "x"), -1);
        CHECK.due("soonest(00x)", Check.soonest(river, "00x"), -2);
        CHECK.due("soonest(x120)", Check.soonest(river, "x120"), -1);
        CHECK.due("wrong: the text is empty", river.count(10), 0);
        river.scratches(0);
        CHECK.due("from how they stand", Check.soonest(river, "120"), 0);
        CHECK.due("from how they stand", Check.soonest(river, "021"), 3);
        BumpsRiver six = Check.first(6);
        CHECK.due("all round at once", Check.soonest(six, "543210"), 1);
        CHECK.due("outermost pair alone", Check.soonest(six, "512340") > 1, true);
        CHECK.due("none", Check.soonest(Check.first(0), ""), 0);
        CHECK.due("none(0)", Check.soonest(Check.first(0), "0"), -1);
    }

    private static void crossed() {
        BumpsRiver river = Check.first(3);
        CHECK.both("crossed(012)", river, Check.crossed(river, "012"), 0, 0, 0);
        CHECK.both("crossed(102)", river, Check.crossed(river, "102"), 1, 0, 1);
        CHECK.both("crossed(021)", river, Check.crossed(river, "021"), 1, 1, 1);
        CHECK.both("crossed(210)", river, Check.crossed(river, "210"), 3, 0, 2);
        CHECK.both("crossed(201)", river, Check.crossed(river, "201"), 2, 2, 2);
        CHECK.due("crossed()", Check.crossed(river, ""), -1);
        CHECK.due("crossed(3)", Check.crossed(river, "312"), -1);
        CHECK.due("crossed(x12x)", Check.crossed(river, "x12x"), -1);
        CHECK.due("crossed(01)", Check.crossed(river, "01"), -3);
        CHECK.due("crossed(011)", Check.crossed(river, "011"), -3);
        CHECK.due("crossed(0121)", Check.crossed(river, "0121"), -4);
        CHECK.row("wrong: the row stays", river, 2, 2);
        CHECK.due("the text is empty", river.count(10), 0);
        river.scratches(0);
        CHECK.both("from how they stand", river, Check.crossed(river, "012"), 2, 0, 2);
        // boats 1 and 2 change, they stand on the first places: the first by number is 1
        CHECK.both("the first by number", river, Check.crossed(river, "210"), 1, 1, 1);
        BumpsRiver none = Check.first(0);
        CHECK.both("none", none, Check.crossed(none, ""), 0, 0, 0);
    }

    private static void chart() {
        BumpsRiver river = Check.first(3);
        CHECK.both("stays", river, Check.chart(river, "012"), 1, 1, 0);
        CHECK.both("one pair", river, Check.chart(river, "102"), 1, 1, 1);
        CHECK.both("two days", river, Check.chart(river, "102;120"), 2, 1, 1);
        CHECK.both("can't", river, Check.chart(river, "210"), 0, 0, 0);
        CHECK.both("round of three can't", river, Check.chart(river, "120"), 0, 0, 0);
        CHECK.both("the second can't", river, Check.chart(river, "102;021;210"), 1, 0, 1);
        CHECK.both("none changes for the latest", river, Check.chart(river, "102;102;021"), 2, 0, 0);
        CHECK.due("nothing changes", river.at(0) + river.count(3), 0);
        CHECK.due("the text is empty", river.count(10), 0);
        CHECK.due("chart()", Check.chart(river, ""), -1);
        CHECK.due("chart(012;)", Check.chart(river, "012;"), -5);
        CHECK.due("wrong: the text is empty", river.count(10), 0);
        CHECK.due("chart(0121)", Check.chart(river, "0121"), -4);
        CHECK.due("chart(210;01;)", Check.chart(river, "210;01;"), -7);
        CHECK.due("chart(012;012x)", Check.chart(river, "012;012x"), -8);
        CHECK.due("chart(012;033)", Check.chart(river, "012;033"), -6);
        CHECK.row("wrong: the row stays", river, 0, 0);
        river.scratches(0);
        CHECK.both("from how they stand", river, Check.chart(river, "120;210"), 2, 1, 1);

        BumpsRiver six = Check.first(6);
        CHECK.both("all round", six, Check.chart(six, "543210"), 1, 1, 3);
        CHECK.both("two inside one", six, Check.chart(six, "521430"), 1, 1, 3);
        CHECK.both("one place inside is in no pair", six, Check.chart(six, "210345"), 0, 0, 0);
        CHECK.both("pairs that cross", six, Check.chart(six, "230145"), 0, 0, 0);
        CHECK.both("one inside, two outside", six, Check.chart(six, "321054"), 1, 1, 3);
        StringBuilder long80 = new StringBuilder("012345");
        for (int i = 0; i < 10; i++) {
            long80.append(";012345");
        }
        CHECK.both("eleven days", six, Check.chart(six, long80.toString()), 11, 1, 0);
        CHECK.due("80 signs, the last too few", Check.chart(six, long80 + ";012"), -81);
        BumpsRiver one = Check.first(1);
        StringBuilder ones = new StringBuilder("0");
        for (int i = 0; i < 39; i++) {
            ones.append(";0");
        }
        CHECK.both("forty days of one", one, Check.chart(one, ones.toString()), 40, 1, 0);
        BumpsRiver none = Check.first(0);
        CHECK.both("none", none, Check.chart(none, ""), 1, 1, 0);
        CHECK.both("none, three days", none, Check.chart(none, ";;"), 3, 1, 0);
        CHECK.both("none, 81 days", none, Check.chart(none, new String(new char[80]).replace('\0', ';')), 81, 1, 0);
        CHECK.due("none(;0)", Check.chart(none, ";0"), -2);
    }
}
