import java.util.List;
import java.util.Set;

/** Promises 26 to 31: lawful sets, orders that can stand, charts. */
final class EdgesOfCharts {
    private static final int[] OTHERS = {-1, 7, Integer.MIN_VALUE, Integer.MAX_VALUE};

    private final Sentences s;

    EdgesOfCharts(Sentences s) {
        this.s = s;
    }

    void check() {
        sets();
        orders();
        best();
        soonest();
        crossed();
        chart();
        chartTexts();
    }

    private void sets() {
        int[] sets = {1, 1, 2, 3, 6, 10, 20};
        s.promise(26);
        s.says("How many LAWFUL sets of pairs there are for as many PLACES as there are BOATS (the empty one, too)");
        for (int n = 0; n <= 6; n++) {
            s.due("of " + n, Check.first(n).sets(), sets[n]);
        }
        BumpsRiver grows = Check.first(2);
        grows.sets();
        Check.boats(grows, "11;11;11;11");
        s.due("of two, then of six", grows.sets(), 20);

        s.says("the ROW: the most pairs of one, how many of these have so many.");
        long[] most = {0, 0, 1, 1, 2, 2, 3};
        long[] such = {1, 1, 1, 2, 2, 5, 5};
        for (int n = 0; n <= 6; n++) {
            BumpsRiver river = Check.first(n);
            s.both("of " + n, river, river.sets(), sets[n], most[n], such[n]);
        }
        BumpsRiver oneByOne = new BumpsRiver();
        for (int n = 0; n <= 6; n++) {
            s.both("of " + n + ", one by one", oneByOne, oneByOne.sets(), sets[n], most[n], such[n]);
            Check.boats(oneByOne, "11");
        }
    }

    private void orders() {
        s.promise(27);
        s.says("How many different ORDERS can stand behind d DAYS (0 .. 6) by LAWFUL sets, whatever BOATS do "
            + "(any such set on each DAY)");
        int[] three = {1, 3, 5, 6, 6, 6, 6};
        for (int d = 0; d <= 6; d++) {
            s.due("orders(" + d + ") of three", Check.first(3).orders(d), three[d]);
        }
        s.due("orders(0) of six", Check.first(6).orders(0), 1);
        s.due("orders(1) of six", Check.first(6).orders(1), 20);
        s.due("orders(6) of six", Check.first(6).orders(6), 720);
        s.due("orders(6) of none", new BumpsRiver().orders(6), 1);
        s.due("orders(6) of one", Check.first(1).orders(6), 1);
        s.due("orders(1) of two", Check.first(2).orders(1), 2);
        BumpsRiver fast = Check.with("90;10;10");
        s.due("by paces none could touch", fast.orders(1), 3);
        fast.scratches(0);
        s.due("from another order", fast.orders(1), 3);

        s.says("the ROW: how many can behind d DAYS and not behind fewer.");
        for (int n = 0; n <= 6; n++) {
            List<Set<List<Integer>>> reached = PlainRiver.reached(n);
            BumpsRiver river = Check.first(n);
            for (int d = 0; d <= 6; d++) {
                int all = reached.get(d).size();
                s.both("orders(" + d + ") of " + n, river, river.orders(d), all,
                    d == 0 ? 1 : all - reached.get(d - 1).size());
            }
        }

        s.says("NONE: another d.");
        BumpsRiver river = Check.first(3);
        river.orders(2);
        String before = Check.whole(river);
        for (int d : OTHERS) {
            s.due("orders(" + d + ")", river.orders(d), -1);
        }
        s.same("another d", river, before);
    }

    private void best() {
        s.promise(28);
        s.says("The least PLACE on which a BOAT can stand behind d DAYS (0 .. 6) so");
        BumpsRiver river = Check.first(3);
        s.due("best(2, 0)", river.best(2, 0), 2);
        s.due("best(2, 1)", river.best(2, 1), 1);
        s.due("best(2, 2)", river.best(2, 2), 0);
        s.due("best(2, 6)", river.best(2, 6), 0);
        s.due("best(5, 1) of six", Check.first(6).best(5, 1), 0);
        s.due("best(4, 1) of six", Check.first(6).best(4, 1), 1);
        s.due("best(4, 1) of five", Check.first(5).best(4, 1), 1);
        s.due("the only one", Check.first(1).best(0, 6), 0);

        s.says("the ROW: the greatest one; in how many of ORDERS that can stand then it is on its least one.");
        for (int n = 1; n <= 6; n++) {
            BumpsRiver some = Check.first(n);
            for (int d = 0; d <= 6; d++) {
                for (int boat = 0; boat < n; boat++) {
                    bestIs(some, n, boat, d);
                }
            }
        }
        river.scratches(0);
        s.both("by its place", river, river.best(0, 1), 1, 2, 1);

        s.says("NONE: others.");
        String before = Check.whole(river);
        for (int d : OTHERS) {
            s.due("best(0, " + d + ")", river.best(0, d), -1);
            s.due("best(" + d + ", 0)", river.best(d, 0), -1);
        }
        s.due("best(3, 0)", river.best(3, 0), -1);
        s.due("without boats", new BumpsRiver().best(0, 0), -1);
        s.same("others", river, before);
    }

    private void bestIs(BumpsRiver river, int n, int boat, int d) {
        long[] on = new long[n];
        for (List<Integer> order : PlainRiver.reached(n).get(d)) {
            on[order.indexOf(boat)]++;
        }
        int least = 0;
        while (on[least] == 0) {
            least++;
        }
        int greatest = n - 1;
        while (on[greatest] == 0) {
            greatest--;
        }
        s.both("best(" + boat + ", " + d + ") of " + n, river, river.best(boat, d), least, greatest, on[least]);
    }

    private void orderFaults(String call, java.util.function.BiFunction<BumpsRiver, String, Integer> reader) {
        Object[][] early = {{"", -1}, {"0", -2}, {"01", -3}};
        Object[][] absent = {{"3", -1}, {"9", -1}, {"031", -2}, {"013", -3}, {"01x", -3}, {"x12", -1}, {"/12", -1},
            {":12", -1}, {"0;1", -2}};
        Object[][] twice = {{"00", -2}, {"010", -3}, {"011", -3}, {"122", -3}, {"00x", -2}};
        Object[][] many = {{"0120", -4}, {"0123", -4}, {"012x", -4}, {"2101", -4}, {"0120;", -4},
            {"x120", -1}, {"0010", -2}};
        s.says("its end, if it ends too early");
        each(call, reader, early);
        BumpsRiver cut = Check.first(3);
        Check.say(cut, "012");
        cut.end(2);
        s.due("a sign behind the end does not count", cut.soonest(), -3);
        s.says("a BOAT that is not there");
        each(call, reader, absent);
        s.due("any of none", reader.apply(new BumpsRiver(), "0"), -1);
        s.says("or comes the second time: at it");
        each(call, reader, twice);
        s.says("one too many: at it");
        each(call, reader, many);
        each(call, reader, new Object[][] {{Check.times("012", 26), -4}});
    }

    private void each(String call, java.util.function.BiFunction<BumpsRiver, String, Integer> reader, Object[][] texts) {
        for (Object[] text : texts) {
            BumpsRiver river = Check.first(3);
            river.race();
            String before = Check.whole(river);
            s.due(call + "(" + text[0] + ")", reader.apply(river, (String) text[0]), text[1]);
            s.same(call + "(" + text[0] + ")", river, before);
        }
    }

    private void soonest() {
        s.promise(29);
        s.says("THE TEXT is an ORDER: the fewest DAYS behind which it can stand so.");
        String[] texts = {"012", "102", "021", "120", "201", "210"};
        int[] days = {0, 1, 1, 2, 2, 3};
        for (int i = 0; i < texts.length; i++) {
            s.due(texts[i], Check.soonest(Check.first(3), texts[i]), days[i]);
        }
        s.due("all round at once", Check.soonest(Check.first(6), "543210"), 1);
        s.due("of none", Check.soonest(new BumpsRiver(), ""), 0);
        s.due("of one", Check.soonest(Check.first(1), "0"), 0);
        BumpsRiver six = Check.first(6);
        List<Set<List<Integer>>> reached = PlainRiver.reached(6);
        for (List<Integer> order : reached.get(6)) {
            StringBuilder text = new StringBuilder();
            for (int boat : order) {
                text.append(boat);
            }
            int soonest = 0;
            while (!reached.get(soonest).contains(order)) {
                soonest++;
            }
            s.due(text.toString(), Check.soonest(six, text.toString()), soonest);
        }
        BumpsRiver stood = Check.first(3);
        stood.scratches(0);
        s.due("from how they stand", Check.soonest(stood, "120") + " " + Check.soonest(stood, "021"), "0 3");
        s.due("no row", stood.count(9), 0);

        s.says("-1 - p: the sign at p can't stand there");
        each("soonest", Check::soonest, new Object[][] {{"x", -1}, {"0x", -2}, {"01x", -3}, {"012x", -4}});
        orderFaults("soonest", Check::soonest);
    }

    private void crossed() {
        s.promise(30);
        s.says("THE TEXT is an ORDER: pairs of BOATS that stand otherwise to each other by it than now "
            + "(lines that cross): how many");
        s.due("as they stand", Check.crossed(Check.first(6), "012345"), 0);
        s.due("two that change", Check.crossed(Check.first(6), "102345"), 1);
        s.due("one to the foot", Check.crossed(Check.first(6), "123450"), 5);
        s.due("all round", Check.crossed(Check.first(6), "543210"), 15);
        BumpsRiver stood = Check.first(3);
        stood.scratches(0);
        s.due("from how they stand", Check.crossed(stood, "012"), 2);
        s.due("from how they stand, as they do", Check.crossed(stood, "120"), 0);

        s.says("the ROW: the BOAT that moves the most PLACES, of equal ones the first, how many");
        BumpsRiver river = Check.first(3);
        s.both("012", river, Check.crossed(river, "012"), 0, 0, 0);
        s.both("021", river, Check.crossed(river, "021"), 1, 1, 1);
        s.both("210", river, Check.crossed(river, "210"), 3, 0, 2);
        s.both("201, up", river, Check.crossed(river, "201"), 2, 2, 2);
        s.both("120, down", river, Check.crossed(river, "120"), 2, 0, 2);
        s.both("the first by number", stood, Check.crossed(stood, "210"), 1, 1, 1);
        BumpsRiver six = Check.first(6);
        s.both("the last one to the head", six, Check.crossed(six, "501234"), 5, 5, 5);

        s.says("(0 and 0 without BOATS)");
        BumpsRiver none = new BumpsRiver();
        s.both("of none", none, Check.crossed(none, ""), 0, 0, 0);

        s.says("-1 - p: as soonest().");
        each("crossed", Check::crossed, new Object[][] {{"", -1}, {"01", -3}, {"3", -1}, {"0x", -2}, {"010", -3},
            {"0120", -4}, {"012;", -4}, {"x120", -1}});
        s.due("any of none", Check.crossed(new BumpsRiver(), "0"), -1);
    }

    private void chartIs(int boats, String text, int want, long all, long pairs) {
        BumpsRiver river = Check.first(boats);
        String before = Check.state(river);
        s.both(text, river, Check.chart(river, text), want, all, pairs);
        s.due(text + " changes nothing", Check.state(river) + river.count(10), before + "0");
    }

    private void chart() {
        s.promise(31);
        s.says("THE TEXT is A CHART: ORDERS with ; between (1 or more; at most 80 signs), of the next DAYS, "
            + "one behind another");
        chartIs(3, "012", 1, 1, 0);
        chartIs(3, "102;120", 2, 1, 1);
        chartIs(3, Check.times("012;", 19) + "012", 20, 1, 0);
        chartIs(6, Check.times("012345;", 10) + "543210", 11, 1, 3);
        chartIs(1, Check.times("0;", 39) + "0", 40, 1, 0);
        chartIs(0, "", 1, 1, 0);
        chartIs(0, ";", 2, 1, 0);
        chartIs(0, Check.times(";", 80), 81, 1, 0);
        s.due("just 80 signs", Check.chart(Check.first(2), Check.times("01;", 26) + "01"), 27);

        s.says("how many can be true, from the first one on, till one can't");
        chartIs(3, "210", 0, 0, 0);
        chartIs(3, "102;021;102", 1, 0, 1);
        chartIs(3, "102;012;210;012", 2, 0, 1);

        s.says("(each comes by a LAWFUL set from the one ahead, the first one from how they stand now)");
        chartIs(3, "120", 0, 0, 0);
        chartIs(3, "102;120;210;201;021;012", 6, 1, 1);
        BumpsRiver stood = Check.first(3);
        stood.scratches(0);
        s.both("from how they stand", stood, Check.chart(stood, "120;210"), 2, 1, 1);
        s.both("not from how they stood", stood, Check.chart(stood, "012"), 0, 0, 0);

        s.says("the ROW: 1 if all can, else 0; how many pairs changed PLACES for the latest one that can (0 without).");
        chartIs(6, "103254", 1, 1, 3);
        chartIs(6, "103254;103254", 2, 1, 0);
        chartIs(6, "103254;013254;543210", 2, 0, 1);
        chartIs(6, "543210;210543", 1, 0, 3);
        chartIs(6, "210543;543210", 0, 0, 0);
    }

    private void chartTexts() {
        s.says("-1 - p: the sign at p can't stand there (as soonest()).");
        each("chart", Check::chart, new Object[][] {{"", -1}, {"0", -2}, {"01", -3}, {"012;", -5}, {"012;0", -6},
            {"012;01", -7}, {"3", -1}, {"013", -3}, {"012;3", -5}, {"012;013", -7}, {"010", -3}, {"012;00", -6},
            {"0120", -4}, {"012012", -4}, {"012;0120", -8}, {"012x", -4}, {"012:", -4}, {"012;;", -5}, {";", -1},
            {"210;012;", -9}, {"210;x", -5}, {Check.times("012;", 20), -81}, {Check.times("012;", 19) + "0123", -80}});
        s.due("any of none", Check.chart(new BumpsRiver(), "0"), -1);
        s.due("any of none, later", Check.chart(new BumpsRiver(), ";;0"), -3);
        BumpsRiver cut = Check.first(3);
        Check.say(cut, "012;102");
        cut.end(6);
        s.due("a sign behind the end does not count", cut.chart(), -7);
    }
}
