import java.util.NoSuchElementException;

/** Boats in line on a river too narrow to pass; ../shared/DOC.md says what each call promises. */
public final class BumpsRiver {
    public static final int NONE = -1;

    /** A call that is fine, but of which nothing comes. */
    private static final int IN_VAIN = -2;
    private static final int MISSING = -3;
    private static final int NO_SUCH_COUNT = -100;
    private static final int LAW_FAULT = -10000;

    private static final int MOST_BOATS = 6;
    private static final int MOST_PAIRS = 3;
    private static final int MOST_PACE = 9;
    private static final int MOST_TIRED = 9;
    private static final int MOST_GAP = 30;
    private static final int MOST_STROKES = 40;
    private static final int MOST_FEET = 20;
    private static final int MOST_TOUCHES = 9999;
    private static final int MOST_DAYS = 60;
    private static final int MOST_HELPED_DAYS = 30;
    private static final int MOST_BLADES = 9;
    private static final int MOST_ORDER_DAYS = 6;
    private static final int MOST_HEARD = 12;
    private static final int MOST_UNDONE = 15;
    private static final int MOST_KEPT = 3;
    private static final int MOST_LEFT = 60;
    private static final int MOST_SPURT = 9;
    private static final int MOST_PRIZE = 20;
    private static final int TEXT_ROOM = 80;
    private static final int BOATS_ROOM = 17;
    private static final int RULE_ROOM = 40;
    private static final int WEEK_ROOM = 60;
    private static final int ROW_ROOM = 16;
    private static final int MOST_ORDERS = 720;
    private static final int MOST_SETS = 20;
    /** What g and b tell of a boat that has none ahead or behind. */
    private static final int NONE_NEAR = 99;

    /** The kinds of things that are heard, each with the least and the greatest number it may have. */
    private static final int[] HEARD_LEAST = {1, 0, 0, 0, 0};
    private static final int[] HEARD_MOST = {9, 9, 5, 1, 1};

    private final Text text = new Text();
    private final Row told = new Row();
    private final River river = new River();
    private final River before = new River();
    private final River trial = new River();
    private final River second = new River();
    private final Past past = new Past();
    private final River[] kept = new River[MOST_KEPT];
    private final boolean[] isKept = new boolean[MOST_KEPT];
    private final Rumours rumours = new Rumours();
    private final Race racing = new Race();
    private final Lawful lawful = new Lawful();
    private final Draws draws = new Draws();
    /** An order as THE TEXT tells it, and the places that its boats had before. */
    private final int[] order = new int[MOST_BOATS];
    private final int[] mate = new int[MOST_BOATS];
    /** Orders of the days ahead, as numbers, for round(). */
    private final int[] seen = new int[MOST_DAYS + 1];
    /** Who wins with so many strokes left, for pulls(). */
    private final boolean[] wins = new boolean[MOST_LEFT + 1];
    private Rule ruling = new Rule(text);
    private Rule spare = new Rule(text);

    public BumpsRiver() {
        for (int i = 0; i < MOST_KEPT; i++) {
            kept[i] = new River();
        }
    }

    // ---- boats

    public int sign(int v) {
        if (text.length + 4 > TEXT_ROOM) {
            return NONE;
        }
        for (int shift = 24; shift >= 0; shift -= 8) {
            text.add(v >>> shift & 255);
        }
        return text.length;
    }

    public boolean end(int n) {
        if (n < 0 || n > text.length) {
            return false;
        }
        text.length = n;
        return true;
    }

    public int boats() {
        int fault = boatsFault();
        int lines = fault >= 0 ? 0 : (text.length + 1) / 3;
        for (int i = 0; i < lines; i++) {
            river.addBoat(text.digitAt(3 * i), text.digitAt(3 * i + 1));
        }
        if (lines > 0) {
            past.length = 0;
            forgetKept();
        }
        text.length = 0;
        return fault >= 0 ? -1 - fault : lines;
    }

    public int rule() {
        int fault = spare.compile();
        text.length = 0;
        if (fault >= 0) {
            return -1 - fault;
        }
        Rule old = ruling;
        ruling = spare;
        spare = old;
        return 0;
    }

    public int boat(int boat, int what) throws NoSuchElementException {
        if (!river.has(boat)) {
            throw new NoSuchElementException("no such boat");
        }
        switch (what) {
            case 0:
                return river.pace[boat];
            case 1:
                return river.tired[boat];
            case 2:
                return river.place[boat];
            case 3:
                return river.boatOn(river.place[boat] - 1);
            case 4:
                racing.run(river, ruling);
                return racing.touchedBy(boat);
            case 5:
                racing.run(river, ruling);
                return racing.toucherOf(boat);
            default:
                throw new NoSuchElementException("no such number of a boat");
        }
    }

    public int at(int place) throws NoSuchElementException {
        int boat = river.boatOn(place);
        if (boat < 0) {
            throw new NoSuchElementException("no such place");
        }
        return boat;
    }

    public int sheet(int kind, int n, int f, int step) {
        if (kind < 0 || kind > 3 || n > MOST_BOATS) {
            return NONE;
        }
        if (kind == 3) {
            river.takeSheet(kind, 0, f, step);
            return MISSING;
        }
        if (n < 0) {
            return IN_VAIN;
        }
        river.takeSheet(kind, n, f, step);
        return river.sumOfPaces();
    }

    // ---- days, what is done

    public int days(int n) {
        if (n < 0 || n > MOST_DAYS) {
            return IN_VAIN;
        }
        past.push(river);
        told.tell(passDays(river, ruling, n));
        return river.boatOn(0);
    }

    public int scratches(int boat) {
        before.copyFrom(river);
        return noted(river.moveToFoot(boat));
    }

    public int rests(int boat) {
        before.copyFrom(river);
        return noted(river.restBoat(boat));
    }

    public int paces(int boat, int v) {
        before.copyFrom(river);
        return noted(river.setPace(boat, v));
    }

    public int gap(int v) {
        before.copyFrom(river);
        return noted(river.setGap(v));
    }

    public int strokes(int v) {
        before.copyFrom(river);
        return noted(river.setStrokes(v));
    }

    public int week() {
        int fault = weekFault();
        if (fault >= 0) {
            text.length = 0;
            return -1 - fault;
        }
        before.copyFrom(river);
        int done = 0;
        int from = 0;
        boolean refused = false;
        for (int acts = 0; acts < WEEK_ROOM && from < text.length && !refused; acts++) {
            refused = !doAct(from);
            done += refused ? 0 : 1;
            from += actLength(text.signs[from]);
        }
        text.length = 0;
        if (done > 0) {
            past.push(before);
        }
        told.tellBoth(refused ? 1 : 0, river.day);
        return done;
    }

    public int undo() {
        if (!past.pop(river)) {
            return NONE;
        }
        return past.length;
    }

    // ---- a race

    public int race() {
        racing.run(river, ruling);
        told.length = 0;
        for (int k = 0; k < racing.pairs; k++) {
            told.add(racing.strokeOf[k]);
            told.add(racing.toucher[k]);
            told.add(racing.touched[k]);
        }
        return racing.pairs;
    }

    public int lies(int boat, int t) {
        if (!river.has(boat) || t < 0 || t > MOST_STROKES) {
            return NONE;
        }
        racing.begin(river, ruling);
        for (int i = 0; i < t; i++) {
            racing.pull(river, ruling, i);
        }
        int place = river.place[boat];
        told.tell(racing.going[place] ? 1 : 0);
        return 1000 + racing.lie[place];
    }

    public int over() {
        racing.run(river, ruling);
        told.tellBoth(racing.touchers(), racing.touchedOnes());
        return racing.goingOnes(river);
    }

    public int closest(int boat) {
        if (!river.has(boat)) {
            return NONE;
        }
        int place = river.place[boat];
        int fewest = -1;
        int when = 0;
        int whom = NONE;
        racing.begin(river, ruling);
        for (int t = 0; t <= river.strokes && racing.left > 1 && racing.going[place]; t++) {
            int ahead = racing.nextAhead(place);
            if (ahead >= 0 && (fewest < 0 || racing.lie[ahead] - racing.lie[place] < fewest)) {
                fewest = racing.lie[ahead] - racing.lie[place];
                when = t;
                whom = river.boatOn(ahead);
            }
            racing.pull(river, ruling, t);
        }
        if (fewest < 0) {
            return IN_VAIN;
        }
        told.tellBoth(when, whom);
        return fewest;
    }

    // ---- later

    public int later(int boat, int n) {
        if (!river.has(boat) || n < 0 || n > MOST_DAYS) {
            return NONE;
        }
        trial.copyFrom(river);
        int pairs = passDays(trial, ruling, n);
        told.tellBoth(trial.tired[boat], pairs);
        return trial.place[boat];
    }

    public int head(int boat) {
        if (!river.has(boat)) {
            return NONE;
        }
        trial.copyFrom(river);
        int former = NONE;
        for (int n = 0; n <= MOST_DAYS; n++) {
            if (trial.place[boat] == 0) {
                told.tell(former);
                return n;
            }
            former = trial.boatOn(0);
            passDays(trial, ruling, 1);
        }
        return IN_VAIN;
    }

    public int bumps(int one, int other) {
        if (!river.has(one) || !river.has(other) || one == other) {
            return NONE;
        }
        trial.copyFrom(river);
        int first = IN_VAIN;
        int times = 0;
        for (int day = 1; day <= MOST_DAYS; day++) {
            passDays(trial, ruling, 1);
            if (racing.touchedBy(one) == other) {
                first = times == 0 ? day : first;
                times++;
            }
        }
        if (times > 0) {
            told.tell(times);
        }
        return first;
    }

    public int blades(int n) {
        if (n < 1 || n > MOST_BLADES) {
            return NONE;
        }
        trial.copyFrom(river);
        int touch = (1 << river.boats) - 1;
        int areTouched = touch;
        for (int day = 0; day < n; day++) {
            passDays(trial, ruling, 1);
            touch &= racing.touchers();
            areTouched &= racing.touchedOnes();
        }
        told.tell(areTouched);
        return touch;
    }

    public int round() {
        trial.copyFrom(river);
        int now = river.orderNumber();
        int different = 1;
        seen[0] = now;
        for (int day = 1; day <= MOST_DAYS; day++) {
            passDays(trial, ruling, 1);
            int then = trial.orderNumber();
            if (then == now) {
                told.tell(different);
                return day;
            }
            if (!isSeen(then, different)) {
                seen[different] = then;
                different++;
            }
        }
        return IN_VAIN;
    }

    // ---- what can be

    public int sets() {
        lawful.prepare(river.boats);
        told.tellBoth(lawful.mostPairs, lawful.setsOfMost);
        return lawful.sets;
    }

    public int orders(int d) {
        if (d < 0 || d > MOST_ORDER_DAYS) {
            return NONE;
        }
        lawful.prepare(river.boats);
        int within = lawful.ordersWithin(d);
        told.tell(within - lawful.ordersWithin(d - 1));
        return within;
    }

    public int best(int boat, int d) {
        if (!river.has(boat) || d < 0 || d > MOST_ORDER_DAYS) {
            return NONE;
        }
        lawful.prepare(river.boats);
        lawful.countPlaces(river.place[boat], d);
        int least = 0;
        int greatest = 0;
        for (int place = river.boats - 1; place >= 0; place--) {
            least = lawful.onPlace[place] > 0 ? place : least;
        }
        for (int place = 0; place < river.boats; place++) {
            greatest = lawful.onPlace[place] > 0 ? place : greatest;
        }
        told.tellBoth(greatest, lawful.onPlace[least]);
        return least;
    }

    public int soonest() {
        int fault = orderFault();
        if (fault >= 0) {
            return -1 - fault;
        }
        relate(river);
        lawful.prepare(river.boats);
        return lawful.daysFor(mate);
    }

    public int crossed() {
        int fault = orderFault();
        if (fault >= 0) {
            return -1 - fault;
        }
        relate(river);
        int lines = 0;
        for (int k = 0; k < river.boats; k++) {
            for (int j = 0; j < k; j++) {
                lines += mate[j] > mate[k] ? 1 : 0;
            }
        }
        tellFarthest();
        return lines;
    }

    public int chart() {
        int fault = chartFault();
        if (fault >= 0) {
            text.length = 0;
            return -1 - fault;
        }
        trial.copyFrom(river);
        int trueOnes = 0;
        int pairs = 0;
        boolean can = true;
        for (int from = 0; from <= text.length && can; from += river.boats + 1) {
            readOrder(from);
            relate(trial);
            can = Lawful.isLawful(mate, river.boats);
            if (can) {
                pairs = Lawful.pairsOf(mate, river.boats);
                trueOnes++;
                trial.standAs(order);
            }
        }
        text.length = 0;
        told.tellBoth(can ? 1 : 0, pairs);
        return trueOnes;
    }

    // ---- paces, gaps

    public int spurs(int boat) {
        if (!river.has(boat)) {
            return NONE;
        }
        trial.copyFrom(river);
        for (int v = 1; v <= MOST_PACE; v++) {
            trial.pace[boat] = v;
            racing.run(trial, ruling);
            int whom = racing.touchedBy(boat);
            if (whom >= 0) {
                told.tellBoth(whom, racing.strokeBy(boat));
                return v;
            }
        }
        return IN_VAIN;
    }

    public int calm() {
        trial.copyFrom(river);
        int least = IN_VAIN;
        int calmOnes = 0;
        for (int v = 1; v <= MOST_GAP; v++) {
            trial.gap = v;
            racing.run(trial, ruling);
            if (racing.pairs == 0) {
                least = calmOnes == 0 ? v : least;
                calmOnes++;
            }
        }
        if (calmOnes > 0) {
            told.tell(calmOnes);
        }
        return least;
    }

    public int differ(int a, int b) {
        if (a < 1 || a > MOST_GAP || b < 1 || b > MOST_GAP) {
            return NONE;
        }
        trial.copyFrom(river);
        trial.gap = a;
        second.copyFrom(river);
        second.gap = b;
        for (int day = 1; day <= MOST_DAYS && a != b; day++) {
            passDays(trial, ruling, 1);
            passDays(second, ruling, 1);
            for (int place = 0; place < river.boats; place++) {
                if (trial.order[place] != second.order[place]) {
                    told.tellBoth(place, trial.order[place]);
                    told.add(second.order[place]);
                    return day;
                }
            }
        }
        return IN_VAIN;
    }

    public int helps(int boat, int n) {
        if (!river.has(boat) || n < 1 || n > MOST_HELPED_DAYS) {
            return NONE;
        }
        int without = placeIfRested(NONE, boat, n);
        int least = MOST_BOATS;
        int helper = NONE;
        for (int rested = 0; rested < river.boats; rested++) {
            int then = river.tired[rested] == 0 ? without : placeIfRested(rested, boat, n);
            if (then < least) {
                least = then;
                helper = rested;
            }
        }
        told.tellBoth(least, without);
        return helper;
    }

    // ---- which it was

    public int heard(int what, int v) {
        if (!mayBeHeard(what, v) || rumours.length >= MOST_HEARD) {
            return NONE;
        }
        rumours.add(what, v);
        return rumours.length;
    }

    public int forget() {
        int had = rumours.length;
        rumours.length = 0;
        return had;
    }

    public int fits() {
        int fitting = fittingBoats();
        told.tell(Integer.bitCount(fitting));
        return fitting;
    }

    public int asks() {
        int fitting = fittingBoats();
        if (fitting == 0) {
            return IN_VAIN;
        }
        int all = Integer.bitCount(fitting);
        int fewest = all + 1;
        int question = NONE;
        for (int what = 0; what < HEARD_LEAST.length; what++) {
            for (int v = HEARD_LEAST[what]; v <= HEARD_MOST[what]; v++) {
                int so = Integer.bitCount(fitting & boatsOfWhich(what, v));
                int left = Math.max(so, all - so);
                if (left < fewest) {
                    fewest = left;
                    question = 10 * what + v;
                }
            }
        }
        told.tell(fewest);
        return question;
    }

    // ---- chances, a game

    public int likely(int boat, int p) {
        if (!river.has(boat) || p < 0 || p > 10) {
            return NONE;
        }
        trial.copyFrom(river);
        int upper = 0;
        int lower = 1;
        for (int i = 0; i < river.boats; i++) {
            lower *= 10;
        }
        for (int better = 0; better < 1 << river.boats; better++) {
            int weight = weightOf(better, p);
            if (weight > 0) {
                rowBetter(better);
                racing.run(trial, ruling);
                upper += racing.touchedBy(boat) >= 0 ? weight : 0;
            }
        }
        int shared = greatestDivisor(upper, lower);
        if (shared > 0) {
            told.tellBoth(upper / shared, lower / shared);
        }
        return 0;
    }

    public int pulls(int n, int k) {
        if (n < 0 || n > MOST_LEFT || k < 2 || k > 9) {
            return NONE;
        }
        wins[0] = true;
        for (int left = 1; left <= n; left++) {
            wins[left] = winningPull(left, k) > 0;
        }
        return winningPull(n, k);
    }

    // ---- laws, crews, years

    public int law() {
        int fault = spare.compile();
        text.length = 0;
        if (fault >= 0) {
            return LAW_FAULT - fault;
        }
        racing.run(river, ruling);
        int byThis = racing.pairs;
        trial.copyFrom(river);
        int byOther = passDays(trial, spare, 1);
        told.tellBoth(byOther, byThis);
        for (int place = 0; place < trial.boats; place++) {
            told.add(trial.order[place]);
        }
        return byOther - byThis;
    }

    public int crews(int v) {
        if (v < 0 || v > MOST_PRIZE) {
            return NONE;
        }
        told.length = 0;
        int steady = 0;
        for (int x = 0; x <= MOST_SPURT; x++) {
            for (int y = 0; y <= MOST_SPURT; y++) {
                if (isBestSpurt(x, y, v) && isBestSpurt(y, x, v)) {
                    if (steady == 0) {
                        told.tellBoth(x, y);
                    }
                    steady++;
                }
            }
        }
        return steady;
    }

    public int years(int seed, int n) {
        if (n < 1 || n > MOST_DAYS) {
            return IN_VAIN;
        }
        trial.copyFrom(river);
        draws.last = seed;
        int pairs = 0;
        for (int i = 0; i < n; i++) {
            pairs += drawnTurn();
        }
        told.tellBoth(pairs, trial.sumOfTired());
        return trial.boatOn(0);
    }

    // ---- kept

    public boolean keep(int i) {
        if (i < 0 || i >= MOST_KEPT) {
            return false;
        }
        kept[i].copyFrom(river);
        isKept[i] = true;
        return true;
    }

    public boolean again(int i) {
        if (i < 0 || i >= MOST_KEPT || !isKept[i]) {
            return false;
        }
        river.copyFrom(kept[i]);
        past.length = 0;
        return true;
    }

    public int count(int what) {
        switch (what) {
            case 0:
                return river.boats;
            case 1:
                return river.gap;
            case 2:
                return river.strokes;
            case 3:
                return river.day;
            case 4:
                return river.touches;
            case 5:
                return river.sumOfPaces();
            case 6:
                return river.sumOfTired();
            case 7:
                return rumours.length;
            case 8:
                return past.length;
            case 9:
                return told.length;
            case 10:
                return text.length;
            default:
                return NO_SUCH_COUNT;
        }
    }

    public long row(int i) throws NoSuchElementException {
        if (i < 0 || i >= told.length) {
            throw new NoSuchElementException("no such number of the row");
        }
        return told.numbers[i];
    }

    // ---- what texts tell

    /** The first sign of THE TEXT that can't stand in a text of boats, or NONE. */
    private int boatsFault() {
        int room = MOST_BOATS - river.boats;
        for (int p = 0; p < text.length; p++) {
            if (p >= BOATS_ROOM || !fitsLine(p, room)) {
                return p;
            }
        }
        // a line has two signs, and each but the last one a sign more
        return text.length == 0 || text.length % 3 == 2 ? NONE : text.length;
    }

    private boolean fitsLine(int p, int room) {
        switch (p % 3) {
            case 0:
                return p / 3 < room && text.digitAt(p) > 0;
            case 1:
                return text.digitAt(p) >= 0;
            default:
                return text.signAt(p) == ';';
        }
    }

    /** The first sign of THE TEXT that can't stand in a week, or NONE. */
    private int weekFault() {
        int p = 0;
        for (int acts = 0; acts < TEXT_ROOM && p < text.length; acts++) {
            int length = p < WEEK_ROOM ? actLength(text.signs[p]) : 0;
            if (length == 0) {
                return p;
            }
            for (int k = 1; k < length; k++) {
                int digit = p + k < WEEK_ROOM ? text.digitAt(p + k) : NONE;
                if (digit < 0 || digit == 0 && k == 2 && text.signs[p] == 'p') {
                    return p + k;
                }
            }
            p += length;
        }
        return NONE;
    }

    /** How many signs an act has that begins so, or 0. */
    private static int actLength(int sign) {
        switch (sign) {
            case 'n':
            case 's':
            case 'r':
                return 2;
            case 'p':
            case 'g':
            case 'k':
                return 3;
            default:
                return 0;
        }
    }

    /** Does the act of a week that begins there; false: it is refused. */
    private boolean doAct(int from) {
        int first = text.digitAt(from + 1);
        int next = text.digitAt(from + 2);
        switch (text.signs[from]) {
            case 'n':
                passDays(river, ruling, first);
                return true;
            case 's':
                return river.moveToFoot(first) >= 0;
            case 'r':
                return river.restBoat(first) >= 0;
            case 'p':
                return river.setPace(first, next) >= 0;
            case 'g':
                return river.setGap(10 * first + next) >= 0;
            default:
                return river.setStrokes(10 * first + next) >= 0;
        }
    }

    /** Reads THE TEXT as one order and empties it: the sign that can't stand there, or NONE. */
    private int orderFault() {
        int fault = readOrder(0);
        if (fault < 0 && text.length > river.boats) {
            fault = river.boats;
        }
        text.length = 0;
        return fault;
    }

    private int chartFault() {
        int from = 0;
        for (int day = 0; day <= TEXT_ROOM; day++) {
            int fault = readOrder(from);
            if (fault >= 0) {
                return fault;
            }
            from += river.boats;
            if (from >= text.length) {
                return NONE;
            }
            if (text.signs[from] != ';') {
                return from;
            }
            from++;
        }
        return NONE;
    }

    /** Reads an order from there on: the sign that can't stand there, or NONE. */
    private int readOrder(int from) {
        int there = 0;
        for (int k = 0; k < river.boats; k++) {
            int boat = text.digitAt(from + k);
            if (!river.has(boat) || (there >> boat & 1) != 0) {
                return from + k;
            }
            there |= 1 << boat;
            order[k] = boat;
        }
        return NONE;
    }

    /** The places from which the boats of the order that was read come. */
    private void relate(River from) {
        for (int k = 0; k < from.boats; k++) {
            mate[k] = from.has(order[k]) ? from.place[order[k]] : k;
        }
    }

    // ---- helpers of the calls

    /** An act that was done can be undone: back to what was ahead of it. */
    private int noted(int answer) {
        if (answer >= 0) {
            past.push(before);
        }
        return answer;
    }

    private void forgetKept() {
        for (int i = 0; i < MOST_KEPT; i++) {
            isKept[i] = false;
        }
    }

    /** Races so many days: how many pairs touched. */
    private int passDays(River on, Rule by, int n) {
        int pairs = 0;
        for (int day = 0; day < n; day++) {
            racing.run(on, by);
            racing.settle(on);
            pairs += racing.pairs;
        }
        return pairs;
    }

    private boolean isSeen(int order, int among) {
        for (int i = 0; i < among && i < seen.length; i++) {
            if (seen[i] == order) {
                return true;
            }
        }
        return false;
    }

    /** Tells the boat that moves the most places by the related order, and how many. */
    private void tellFarthest() {
        int farthest = 0;
        int most = 0;
        for (int boat = 0; boat < river.boats; boat++) {
            for (int k = 0; k < river.boats; k++) {
                int moves = Math.abs(k - river.place[boat]);
                if (order[k] == boat && moves > most) {
                    farthest = boat;
                    most = moves;
                }
            }
        }
        told.tellBoth(farthest, most);
    }

    private int placeIfRested(int rested, int boat, int n) {
        trial.copyFrom(river);
        trial.restBoat(rested);
        passDays(trial, ruling, n);
        return trial.place[boat];
    }

    private static boolean mayBeHeard(int what, int v) {
        return what >= 0 && what < HEARD_LEAST.length && v >= HEARD_LEAST[what] && v <= HEARD_MOST[what];
    }

    private int fittingBoats() {
        racing.run(river, ruling);
        int fitting = (1 << river.boats) - 1;
        for (int i = 0; i < rumours.length; i++) {
            fitting &= boatsOfWhich(rumours.what[i], rumours.number[i]);
        }
        return fitting;
    }

    /** Boats of which such may be heard; this day's race was run ahead of it. */
    private int boatsOfWhich(int what, int v) {
        int all = (1 << river.boats) - 1;
        if (what == 3) {
            return v == 1 ? racing.touchers() : all & ~racing.touchers();
        }
        if (what == 4) {
            return v == 1 ? racing.touchedOnes() : all & ~racing.touchedOnes();
        }
        int such = 0;
        for (int boat = 0; boat < river.boats; boat++) {
            boolean so = what == 0 ? river.pace[boat] >= v
                : what == 1 ? river.tired[boat] >= v
                : river.place[boat] <= v;
            such |= so ? 1 << boat : 0;
        }
        return such;
    }

    /** How many of ten to the number of boats chances there are that just these row better. */
    private int weightOf(int better, int p) {
        int weight = 1;
        for (int boat = 0; boat < river.boats; boat++) {
            weight *= (better >> boat & 1) != 0 ? p : 10 - p;
        }
        return weight;
    }

    private void rowBetter(int better) {
        for (int boat = 0; boat < river.boats; boat++) {
            trial.pace[boat] = river.pace[boat] + (better >> boat & 1);
        }
    }

    private static int greatestDivisor(int a, int b) {
        int greater = a;
        int less = b;
        for (int i = 0; i < 64 && less != 0; i++) {
            int rest = greater % less;
            greater = less;
            less = rest;
        }
        return greater;
    }

    /** The least pull after which the other one can't win, or 0. */
    private int winningPull(int left, int k) {
        for (int pull = 1; pull <= left; pull++) {
            boolean may = pull <= k || pull * 2 == left;
            if (may && !wins[left - pull]) {
                return pull;
            }
        }
        return 0;
    }

    private static int spurtGain(int own, int other, int v) {
        return (own > other ? v : 0) - own - (own < other ? 1 : 0);
    }

    private static boolean isBestSpurt(int own, int other, int v) {
        int has = spurtGain(own, other, v);
        for (int instead = 0; instead <= MOST_SPURT; instead++) {
            if (spurtGain(instead, other, v) > has) {
                return false;
            }
        }
        return true;
    }

    /** One turn of years() on the trial river: how many pairs touched. */
    private int drawnTurn() {
        int kind = draws.draw(4);
        if (kind < 2) {
            return passDays(trial, ruling, 1);
        }
        if (trial.boats == 0) {
            return 0;
        }
        int boat = draws.draw(trial.boats);
        if (kind == 2) {
            trial.setPace(boat, draws.draw(MOST_PACE) + 1);
        } else {
            trial.moveToFoot(boat);
        }
        return 0;
    }

    /** THE TEXT. */
    static final class Text {
        final int[] signs = new int[TEXT_ROOM];
        int length;

        void add(int sign) {
            if (length < TEXT_ROOM) {
                signs[length] = sign;
                length++;
            }
        }

        int signAt(int p) {
            return p >= 0 && p < length ? signs[p] : NONE;
        }

        int digitAt(int p) {
            int sign = signAt(p);
            return sign >= '0' && sign <= '9' ? sign - '0' : NONE;
        }
    }

    /** The ROW: the numbers told last. */
    static final class Row {
        final long[] numbers = new long[ROW_ROOM];
        int length;

        void add(long number) {
            if (length < ROW_ROOM) {
                numbers[length] = number;
                length++;
            }
        }

        void tell(long only) {
            length = 0;
            add(only);
        }

        void tellBoth(long first, long next) {
            length = 0;
            add(first);
            add(next);
        }
    }

    /** Boats as they stand, with all that undo() brings back. */
    static final class River {
        int boats;
        final int[] pace = new int[MOST_BOATS];
        final int[] tired = new int[MOST_BOATS];
        final int[] place = new int[MOST_BOATS];
        /** The boats from the head on. */
        final int[] order = new int[MOST_BOATS];
        int gap = 9;
        int strokes = 20;
        int day;
        int touches;

        void copyFrom(River other) {
            boats = other.boats;
            for (int i = 0; i < boats; i++) {
                pace[i] = other.pace[i];
                tired[i] = other.tired[i];
                place[i] = other.place[i];
                order[i] = other.order[i];
            }
            gap = other.gap;
            strokes = other.strokes;
            day = other.day;
            touches = other.touches;
        }

        boolean has(int boat) {
            return boat >= 0 && boat < boats;
        }

        int boatOn(int where) {
            return where >= 0 && where < boats ? order[where] : NONE;
        }

        void addBoat(int itsPace, int itsTired) {
            if (boats < MOST_BOATS) {
                pace[boats] = itsPace;
                tired[boats] = itsTired;
                place[boats] = boats;
                order[boats] = boats;
                boats++;
            }
        }

        void put(int boat, int where) {
            if (has(boat) && where >= 0 && where < boats) {
                place[boat] = where;
                order[where] = boat;
            }
        }

        void changePlaces(int one, int other) {
            if (has(one) && has(other)) {
                int was = place[one];
                put(one, place[other]);
                put(other, was);
            }
        }

        void standAs(int[] others) {
            for (int k = 0; k < boats && k < others.length; k++) {
                put(others[k], k);
            }
        }

        int orderNumber() {
            int number = 0;
            for (int k = 0; k < boats; k++) {
                number = number * MOST_BOATS + order[k];
            }
            return number;
        }

        int moveToFoot(int boat) {
            if (!has(boat)) {
                return NONE;
            }
            int was = place[boat];
            if (was == boats - 1) {
                return IN_VAIN;
            }
            for (int k = was; k < boats - 1; k++) {
                put(order[k + 1], k);
            }
            put(boat, boats - 1);
            return was;
        }

        int restBoat(int boat) {
            if (!has(boat)) {
                return NONE;
            }
            int was = tired[boat];
            tired[boat] = 0;
            return was == 0 ? IN_VAIN : was;
        }

        int setPace(int boat, int v) {
            if (!has(boat) || v < 1 || v > MOST_PACE) {
                return NONE;
            }
            int was = pace[boat];
            pace[boat] = v;
            return was == v ? IN_VAIN : was;
        }

        int setGap(int v) {
            if (v < 1 || v > MOST_GAP) {
                return NONE;
            }
            int was = gap;
            gap = v;
            return was == v ? IN_VAIN : was;
        }

        int setStrokes(int v) {
            if (v < 1 || v > MOST_STROKES) {
                return NONE;
            }
            int was = strokes;
            strokes = v;
            return was == v ? IN_VAIN : was;
        }

        void takeSheet(int kind, int n, int f, int step) {
            for (int k = 0; k < boats; k++) {
                int entry = f + k * step;
                int read = kind == 0 ? (byte) entry : kind == 1 ? (short) entry : entry;
                pace[k] = k < n ? Math.max(1, Math.min(MOST_PACE, read)) : 1;
            }
        }

        int sumOfPaces() {
            int sum = 0;
            for (int i = 0; i < boats; i++) {
                sum += pace[i];
            }
            return sum;
        }

        int sumOfTired() {
            int sum = 0;
            for (int i = 0; i < boats; i++) {
                sum += tired[i];
            }
            return sum;
        }
    }

    /** What can be undone, the latest last. */
    static final class Past {
        final River[] rivers = new River[MOST_UNDONE];
        int length;

        Past() {
            for (int i = 0; i < MOST_UNDONE; i++) {
                rivers[i] = new River();
            }
        }

        void push(River river) {
            if (length >= MOST_UNDONE) {
                dropOldest();
            }
            rivers[length].copyFrom(river);
            length++;
        }

        private void dropOldest() {
            River oldest = rivers[0];
            for (int i = 0; i < MOST_UNDONE - 1; i++) {
                rivers[i] = rivers[i + 1];
            }
            rivers[MOST_UNDONE - 1] = oldest;
            length = MOST_UNDONE - 1;
        }

        boolean pop(River into) {
            if (length < 1) {
                return false;
            }
            length--;
            into.copyFrom(rivers[length]);
            return true;
        }
    }

    /** What was heard of a boat. */
    static final class Rumours {
        final int[] what = new int[MOST_HEARD];
        final int[] number = new int[MOST_HEARD];
        int length;

        void add(int kind, int v) {
            if (length < MOST_HEARD) {
                what[length] = kind;
                number[length] = v;
                length++;
            }
        }
    }

    /** Numbers drawn one behind another from a seed. */
    static final class Draws {
        int last;

        int draw(int n) {
            if (n < 1) {
                return 0;
            }
            last = last * 1103515245 + 12345;
            return (last >>> 16) % n;
        }
    }

    /** A rule as numbers to be worked off from left to right, operands first. */
    static final class Rule {
        static final int PACE = 0;
        static final int TIRED = 1;
        static final int STROKE = 2;
        static final int PLACE = 3;
        static final int AHEAD = 4;
        static final int BEHIND = 5;
        static final int DAY = 6;
        static final int THINGS = 7;
        /** Codes: a number is itself, a thing -1 less its index, signs are below these. */
        static final int NEGATE = -1 - THINGS;
        static final int MOST_DEEP = 4;

        final int[] code = new int[RULE_ROOM];
        int length;
        /** Whether feet may be others from stroke to stroke. */
        boolean changing;
        final int[] things = new int[THINGS];
        final int[] stack = new int[RULE_ROOM];
        final Text text;
        int pos;

        Rule(Text told) {
            text = told;
            takeStandard();
        }

        private void takeStandard() {
            length = 0;
            changing = false;
            emit(-1 - PACE);
            emit(-1 - TIRED);
            emit(4);
            emit(-'/');
            emit(-'-');
        }

        private void emit(int number) {
            if (length < RULE_ROOM) {
                code[length] = number;
                length++;
            }
        }

        /** Takes the text as the rule: the sign that can't stand there, or NONE. */
        int compile() {
            if (text.length == 0) {
                takeStandard();
                return NONE;
            }
            length = 0;
            changing = false;
            pos = 0;
            return readExpression(0) && pos >= text.length ? NONE : pos;
        }

        private int peek() {
            return pos < RULE_ROOM && pos < text.length ? text.signs[pos] : NONE;
        }

        private boolean readExpression(int deep) {
            if (!readSum(deep)) {
                return false;
            }
            int sign = peek();
            if (sign != '<' && sign != '>' && sign != '=') {
                return true;
            }
            pos++;
            if (!readSum(deep)) {
                return false;
            }
            emit(-sign);
            return true;
        }

        private boolean readSum(int deep) {
            boolean fine = readProduct(deep);
            for (int i = 0; i < RULE_ROOM && fine; i++) {
                int sign = peek();
                if (sign != '+' && sign != '-') {
                    return true;
                }
                pos++;
                fine = readProduct(deep);
                emit(-sign);
            }
            return fine;
        }

        private boolean readProduct(int deep) {
            boolean fine = readSigned(deep);
            for (int i = 0; i < RULE_ROOM && fine; i++) {
                int sign = peek();
                if (sign != '*' && sign != '/') {
                    return true;
                }
                pos++;
                fine = readSigned(deep);
                emit(-sign);
            }
            return fine;
        }

        private boolean readSigned(int deep) {
            boolean negative = false;
            for (int i = 0; i < RULE_ROOM && peek() == '-'; i++) {
                negative = !negative;
                pos++;
            }
            boolean fine = peek() == '(' ? readInner(deep + 1) : readThing();
            if (fine && negative) {
                emit(NEGATE);
            }
            return fine;
        }

        private boolean readInner(int deep) {
            if (deep > MOST_DEEP) {
                return false;
            }
            pos++;
            if (!readExpression(deep) || peek() != ')') {
                return false;
            }
            pos++;
            return true;
        }

        private boolean readThing() {
            int thing = thingOf(peek());
            if (thing >= 0) {
                emit(-1 - thing);
                changing = changing || thing == STROKE || thing == AHEAD || thing == BEHIND;
                pos++;
                return true;
            }
            int number = 0;
            int digits = 0;
            for (int i = 0; i < 3 && peek() >= '0' && peek() <= '9'; i++) {
                number = number * 10 + peek() - '0';
                digits++;
                pos++;
            }
            emit(number);
            return digits > 0;
        }

        private static int thingOf(int sign) {
            switch (sign) {
                case 'p':
                    return PACE;
                case 'x':
                    return TIRED;
                case 't':
                    return STROKE;
                case 'i':
                    return PLACE;
                case 'g':
                    return AHEAD;
                case 'b':
                    return BEHIND;
                case 'n':
                    return DAY;
                default:
                    return NONE;
            }
        }

        /** The feet that the rule gives for the things as they are set. */
        int feet() {
            int top = 0;
            for (int i = 0; i < length; i++) {
                int next = code[i];
                if (next > NEGATE) {
                    if (top >= RULE_ROOM) {
                        return 0;
                    }
                    stack[top] = next >= 0 ? next : things[-1 - next];
                    top++;
                } else if (next == NEGATE) {
                    if (top < 1) {
                        return 0;
                    }
                    stack[top - 1] = -stack[top - 1];
                } else {
                    if (top < 2) {
                        return 0;
                    }
                    top--;
                    stack[top - 1] = joined(-next, stack[top - 1], stack[top]);
                }
            }
            return Math.max(0, Math.min(MOST_FEET, stack[0]));
        }

        private static int joined(int sign, int a, int b) {
            switch (sign) {
                case '+':
                    return a + b;
                case '-':
                    return a - b;
                case '*':
                    return a * b;
                case '/':
                    return b == 0 ? 0 : a / b;
                case '<':
                    return a < b ? 1 : 0;
                case '>':
                    return a > b ? 1 : 0;
                default:
                    return a == b ? 1 : 0;
            }
        }
    }

    /** One race; boats are known by their places, but for the pairs that touched. */
    static final class Race {
        int places;
        final int[] lie = new int[MOST_BOATS];
        final boolean[] going = new boolean[MOST_BOATS];
        final int[] feet = new int[MOST_BOATS];
        int left;
        int pairs;
        final int[] strokeOf = new int[MOST_PAIRS];
        final int[] toucher = new int[MOST_PAIRS];
        final int[] touched = new int[MOST_PAIRS];

        void begin(River river, Rule by) {
            places = river.boats;
            left = places;
            pairs = 0;
            for (int k = 0; k < places; k++) {
                lie[k] = -river.gap * k;
                going[k] = true;
            }
            if (!by.changing) {
                weigh(river, by, 0);
            }
        }

        /** The whole race; with fewer than two boats left nobody can touch. */
        void run(River river, Rule by) {
            begin(river, by);
            for (int t = 0; t < river.strokes && left > 1; t++) {
                pull(river, by, t);
            }
        }

        /** One stroke, with t strokes ahead of it. */
        void pull(River river, Rule by, int t) {
            if (by.changing) {
                weigh(river, by, t);
            }
            for (int k = 0; k < places; k++) {
                lie[k] += going[k] ? feet[k] : 0;
            }
            for (int k = 1; k < places; k++) {
                int ahead = going[k] ? nextAhead(k) : NONE;
                if (ahead >= 0 && lie[k] >= lie[ahead]) {
                    touch(river, k, ahead, t + 1);
                }
            }
        }

        private void weigh(River river, Rule by, int t) {
            for (int k = 0; k < places; k++) {
                if (going[k]) {
                    int boat = river.order[k];
                    int ahead = nextAhead(k);
                    int behind = nextBehind(k);
                    by.things[Rule.PACE] = river.pace[boat];
                    by.things[Rule.TIRED] = river.tired[boat];
                    by.things[Rule.STROKE] = t;
                    by.things[Rule.PLACE] = k;
                    by.things[Rule.AHEAD] = ahead >= 0 ? lie[ahead] - lie[k] : NONE_NEAR;
                    by.things[Rule.BEHIND] = behind >= 0 ? lie[k] - lie[behind] : NONE_NEAR;
                    by.things[Rule.DAY] = river.day % 7;
                    feet[k] = by.feet();
                }
            }
        }

        int nextAhead(int k) {
            for (int j = k - 1; j >= 0; j--) {
                if (going[j]) {
                    return j;
                }
            }
            return NONE;
        }

        private int nextBehind(int k) {
            for (int j = k + 1; j < places; j++) {
                if (going[j]) {
                    return j;
                }
            }
            return NONE;
        }

        private void touch(River river, int k, int ahead, int stroke) {
            going[k] = false;
            going[ahead] = false;
            left -= 2;
            if (pairs < MOST_PAIRS) {
                strokeOf[pairs] = stroke;
                toucher[pairs] = river.order[k];
                touched[pairs] = river.order[ahead];
                pairs++;
            }
        }

        /** What the day leaves behind: tired crews, changed places. */
        void settle(River river) {
            for (int k = 0; k < places; k++) {
                int boat = river.order[k];
                int then = river.tired[boat] + (going[k] ? 1 : -1);
                river.tired[boat] = Math.max(0, Math.min(MOST_TIRED, then));
            }
            for (int i = 0; i < pairs; i++) {
                river.changePlaces(toucher[i], touched[i]);
            }
            river.touches = Math.min(MOST_TOUCHES, river.touches + pairs);
            river.day++;
        }

        int touchedBy(int boat) {
            int pair = pairOf(toucher, boat);
            return pair >= 0 ? touched[pair] : NONE;
        }

        int toucherOf(int boat) {
            int pair = pairOf(touched, boat);
            return pair >= 0 ? toucher[pair] : NONE;
        }

        int strokeBy(int boat) {
            int pair = pairOf(toucher, boat);
            return pair >= 0 ? strokeOf[pair] : NONE;
        }

        private int pairOf(int[] side, int boat) {
            for (int i = 0; i < pairs; i++) {
                if (side[i] == boat) {
                    return i;
                }
            }
            return NONE;
        }

        int touchers() {
            return bitsOf(toucher);
        }

        int touchedOnes() {
            return bitsOf(touched);
        }

        private int bitsOf(int[] side) {
            int bits = 0;
            for (int i = 0; i < pairs; i++) {
                bits |= 1 << side[i];
            }
            return bits;
        }

        int goingOnes(River river) {
            int bits = 0;
            for (int k = 0; k < places; k++) {
                bits |= going[k] ? 1 << river.order[k] : 0;
            }
            return bits;
        }
    }

    /**
     * Lawful sets and the orders that they lead to. A set is told by its mates: for each place the
     * one that it changes with (itself, if with none). Orders are counted in the way of a dictionary.
     */
    static final class Lawful {
        int places = NONE;
        int orders;
        int sets;
        int mostPairs;
        int setsOfMost;
        final int[][] mates = new int[MOST_SETS][MOST_BOATS];
        /** The fewest days behind which each order can stand. */
        final int[] soonestDay = new int[MOST_ORDERS];
        final int[] onPlace = new int[MOST_BOATS];
        private final int[] order = new int[MOST_BOATS];
        private final int[] next = new int[MOST_BOATS];

        /** Whether the first n places change in pairs so, and each pair has whole pairs between it alone. */
        static boolean isLawful(int[] mates, int n) {
            for (int k = 0; k < n; k++) {
                int other = mates[k];
                if (other < 0 || other >= n || mates[other] != k || !isFull(mates, k, other)) {
                    return false;
                }
            }
            return true;
        }

        private static boolean isFull(int[] mates, int from, int to) {
            for (int k = from + 1; k < to; k++) {
                if (mates[k] == k || mates[k] <= from || mates[k] >= to) {
                    return false;
                }
            }
            return true;
        }

        static int pairsOf(int[] mates, int n) {
            int pairs = 0;
            for (int k = 0; k < n; k++) {
                pairs += mates[k] > k ? 1 : 0;
            }
            return pairs;
        }

        /** Makes the tables, which depend on the number of places alone. */
        void prepare(int n) {
            if (n == places || n < 0 || n > MOST_BOATS) {
                return;
            }
            places = n;
            orders = 1;
            for (int k = 2; k <= n; k++) {
                orders *= k;
            }
            findSets();
            findDays();
        }

        private void findSets() {
            sets = 0;
            mostPairs = 0;
            setsOfMost = 0;
            for (int number = 0; number < orders; number++) {
                unpack(number);
                if (sets < MOST_SETS && isLawful(order, places)) {
                    for (int k = 0; k < places; k++) {
                        mates[sets][k] = order[k];
                    }
                    sets++;
                    int pairs = pairsOf(order, places);
                    setsOfMost = pairs > mostPairs ? 1 : pairs == mostPairs ? setsOfMost + 1 : setsOfMost;
                    mostPairs = Math.max(mostPairs, pairs);
                }
            }
        }

        /** Six days are enough for every order of six: neighbours that change on even, then on odd places sort any. */
        private void findDays() {
            for (int number = 0; number < orders; number++) {
                soonestDay[number] = NONE;
            }
            soonestDay[0] = 0;
            int found = 1;
            for (int day = 0; day < MOST_ORDER_DAYS && found < orders; day++) {
                for (int number = 0; number < orders; number++) {
                    if (soonestDay[number] == day) {
                        unpack(number);
                        found += spreadFrom(day);
                    }
                }
            }
        }

        /** Marks the orders one day behind the unpacked one that were not found: how many. */
        private int spreadFrom(int day) {
            int found = 0;
            for (int s = 0; s < sets; s++) {
                for (int k = 0; k < places; k++) {
                    next[k] = order[mates[s][k]];
                }
                int number = numberOf(next);
                if (soonestDay[number] < 0) {
                    soonestDay[number] = day + 1;
                    found++;
                }
            }
            return found;
        }

        /** The order of that number, place by place the next of those that are not taken. */
        private void unpack(int number) {
            int rest = number;
            int block = orders;
            int free = (1 << places) - 1;
            for (int k = 0; k < places; k++) {
                block /= places - k;
                int skip = block > 0 ? rest / block : 0;
                rest -= skip * block;
                order[k] = nthBit(free, skip);
                free &= ~(1 << order[k]);
            }
        }

        private static int nthBit(int bits, int n) {
            int skipped = 0;
            for (int bit = 0; bit < MOST_BOATS; bit++) {
                if ((bits >> bit & 1) != 0) {
                    if (skipped == n) {
                        return bit;
                    }
                    skipped++;
                }
            }
            return 0;
        }

        private int numberOf(int[] row) {
            int number = 0;
            int free = (1 << places) - 1;
            for (int k = 0; k < places && k < row.length; k++) {
                int bit = 1 << row[k];
                number = number * (places - k) + Integer.bitCount(free & (bit - 1));
                free &= ~bit;
            }
            return number >= 0 && number < orders ? number : 0;
        }

        int daysFor(int[] row) {
            return soonestDay[numberOf(row)];
        }

        int ordersWithin(int days) {
            int within = 0;
            for (int number = 0; number < orders; number++) {
                within += soonestDay[number] <= days ? 1 : 0;
            }
            return within;
        }

        /** Counts for each place the orders within those days by which the boat stands there. */
        void countPlaces(int place, int days) {
            for (int k = 0; k < places; k++) {
                onPlace[k] = 0;
            }
            for (int number = 0; number < orders; number++) {
                if (soonestDay[number] <= days) {
                    unpack(number);
                    for (int k = 0; k < places; k++) {
                        onPlace[k] += order[k] == place ? 1 : 0;
                    }
                }
            }
        }
    }
}
