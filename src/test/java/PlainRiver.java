import java.math.BigInteger;
import java.util.ArrayDeque;
import java.util.ArrayList;
import java.util.Collections;
import java.util.Deque;
import java.util.HashMap;
import java.util.HashSet;
import java.util.LinkedHashSet;
import java.util.List;
import java.util.Map;
import java.util.Set;

/** The document once more, told in another way: the slowest and plainest one, for comparison alone. */
final class PlainRiver {
    static final class Crew {
        final int id;
        int pace;
        int tired;

        Crew(int id, int pace, int tired) {
            this.id = id;
            this.pace = pace;
            this.tired = tired;
        }
    }

    static final class World {
        final List<Crew> line = new ArrayList<>();
        int gap = 9;
        int strokes = 20;
        int day = 0;
        int touches = 0;

        World copy() {
            World other = new World();
            for (Crew crew : line) {
                other.line.add(new Crew(crew.id, crew.pace, crew.tired));
            }
            other.gap = gap;
            other.strokes = strokes;
            other.day = day;
            other.touches = touches;
            return other;
        }

        Crew crew(int id) {
            for (Crew crew : line) {
                if (crew.id == id) {
                    return crew;
                }
            }
            return null;
        }

        int place(int id) {
            return line.indexOf(crew(id));
        }

        List<Integer> ids() {
            List<Integer> ids = new ArrayList<>();
            for (Crew crew : line) {
                ids.add(crew.id);
            }
            return ids;
        }

        int head() {
            return line.isEmpty() ? -1 : line.get(0).id;
        }
    }

    /** A race that is known whole: where each lies and who races behind each stroke. */
    static final class Course {
        final List<int[]> touches = new ArrayList<>();
        final List<Map<Integer, Integer>> lies = new ArrayList<>();
        final List<Set<Integer>> racing = new ArrayList<>();

        Course(World world, String rule, int strokes) {
            Map<Integer, Integer> lie = new HashMap<>();
            List<Crew> going = new ArrayList<>(world.line);
            for (Crew crew : world.line) {
                lie.put(crew.id, -world.gap * world.line.indexOf(crew));
            }
            note(lie, going);
            for (int t = 0; t < strokes; t++) {
                Map<Integer, Integer> then = new HashMap<>(lie);
                for (int k = 0; k < going.size(); k++) {
                    Crew crew = going.get(k);
                    int own = lie.get(crew.id);
                    Map<Character, Integer> things = new HashMap<>();
                    things.put('p', crew.pace);
                    things.put('x', crew.tired);
                    things.put('t', t);
                    things.put('i', world.line.indexOf(crew));
                    things.put('g', k == 0 ? 99 : lie.get(going.get(k - 1).id) - own);
                    things.put('b', k == going.size() - 1 ? 99 : own - lie.get(going.get(k + 1).id));
                    things.put('n', world.day % 7);
                    then.put(crew.id, own + Math.max(0, Math.min(20, value(rule, things))));
                }
                lie = then;
                for (Crew crew : world.line) {
                    int k = going.indexOf(crew);
                    if (k > 0 && lie.get(crew.id) >= lie.get(going.get(k - 1).id)) {
                        touches.add(new int[] {t + 1, crew.id, going.get(k - 1).id});
                        going.remove(k);
                        going.remove(k - 1);
                    }
                }
                note(lie, going);
            }
        }

        private void note(Map<Integer, Integer> lie, List<Crew> going) {
            lies.add(lie);
            Set<Integer> ids = new LinkedHashSet<>();
            for (Crew crew : going) {
                ids.add(crew.id);
            }
            racing.add(ids);
        }

        int touchedBy(int id) {
            for (int[] touch : touches) {
                if (touch[1] == id) {
                    return touch[2];
                }
            }
            return -1;
        }

        int toucherOf(int id) {
            for (int[] touch : touches) {
                if (touch[2] == id) {
                    return touch[1];
                }
            }
            return -1;
        }

        int bits(int column) {
            int bits = 0;
            for (int[] touch : touches) {
                bits |= 1 << touch[column];
            }
            return bits;
        }
    }

    static final String STANDARD = "p-x/4";

    World world = new World();
    String text = "";
    String rule = STANDARD;
    List<Long> row = new ArrayList<>();
    Deque<World> past = new ArrayDeque<>();
    World[] kept = new World[3];
    List<int[]> rumours = new ArrayList<>();

    // ---- rules

    static int value(String s, Map<Character, Integer> things) {
        int split = split(s, "<>=");
        if (split < 0) {
            split = split(s, "+-");
        }
        if (split < 0) {
            split = split(s, "*/");
        }
        if (split >= 0) {
            int a = value(s.substring(0, split), things);
            int b = value(s.substring(split + 1), things);
            switch (s.charAt(split)) {
                case '<': return a < b ? 1 : 0;
                case '>': return a > b ? 1 : 0;
                case '=': return a == b ? 1 : 0;
                case '+': return a + b;
                case '-': return a - b;
                case '*': return a * b;
                default: return b == 0 ? 0 : a / b;
            }
        }
        if (s.charAt(0) == '-') {
            return -value(s.substring(1), things);
        }
        if (s.charAt(0) == '(') {
            return value(s.substring(1, s.length() - 1), things);
        }
        Integer thing = things.get(s.charAt(0));
        return thing != null ? thing : Integer.parseInt(s);
    }

    /** The last sign of these with an operand on both sides, outside of all brackets. */
    private static int split(String s, String signs) {
        int deep = 0;
        for (int i = s.length() - 1; i > 0; i--) {
            char c = s.charAt(i);
            deep += c == ')' ? 1 : c == '(' ? -1 : 0;
            char left = s.charAt(i - 1);
            if (deep == 0 && signs.indexOf(c) >= 0 && (Character.isLetterOrDigit(left) || left == ')')) {
                return i;
            }
        }
        return -1;
    }

    static int ruleFault(String s) {
        boolean wantsThing = true;
        int digits = 0;
        List<Boolean> compared = new ArrayList<>(Collections.singletonList(false));
        for (int p = 0; p < s.length(); p++) {
            char c = s.charAt(p);
            if (p == 40) {
                return 40;
            }
            int inner = compared.size() - 1;
            boolean digit = c >= '0' && c <= '9';
            if (wantsThing) {
                if (c == '(' && inner < 4) {
                    compared.add(false);
                } else if (digit || "pxtigbn".indexOf(c) >= 0) {
                    digits = digit ? 1 : 0;
                    wantsThing = false;
                } else if (c != '-') {
                    return p;
                }
            } else if (digit) {
                if (digits == 0 || digits == 3) {
                    return p;
                }
                digits++;
            } else if (c == ')' && inner > 0) {
                compared.remove(inner);
                digits = 0;
            } else if ("<>=".indexOf(c) >= 0 && !compared.get(inner)) {
                compared.set(inner, true);
                wantsThing = true;
            } else if ("+-*/".indexOf(c) >= 0) {
                wantsThing = true;
            } else {
                return p;
            }
        }
        return wantsThing || compared.size() > 1 ? s.length() : -1;
    }

    /** The first sign by which the text can't be a beginning of what a pattern tells. */
    private static int fault(String s, int most, String beginning, String whole) {
        for (int p = 0; p < s.length(); p++) {
            if (p == most || !s.substring(0, p + 1).matches(beginning)) {
                return p;
            }
        }
        return s.matches(whole) ? -1 : s.length();
    }

    private String take() {
        String s = text;
        text = "";
        return s;
    }

    private void tell(long... numbers) {
        row = new ArrayList<>();
        for (long number : numbers) {
            row.add(number);
        }
    }

    private boolean has(int id) {
        return world.crew(id) != null;
    }

    private int size() {
        return world.line.size();
    }

    private Course course() {
        return new Course(world, rule, world.strokes);
    }

    static int day(World on, String by) {
        Course course = new Course(on, by, on.strokes);
        Set<Integer> racing = course.racing.get(on.strokes);
        for (Crew crew : on.line) {
            crew.tired = racing.contains(crew.id) ? Math.min(9, crew.tired + 1) : Math.max(0, crew.tired - 1);
        }
        for (int[] touch : course.touches) {
            Collections.swap(on.line, on.place(touch[1]), on.place(touch[2]));
        }
        on.touches = Math.min(9999, on.touches + course.touches.size());
        on.day++;
        return course.touches.size();
    }

    static int days(World on, String by, int n) {
        int sum = 0;
        for (int i = 0; i < n; i++) {
            sum += day(on, by);
        }
        return sum;
    }

    private void push(World before) {
        past.addLast(before);
        if (past.size() > 15) {
            past.removeFirst();
        }
    }

    // ---- lawful sets

    private static final Map<Integer, List<int[]>> SETS = new HashMap<>();
    private static final Map<Integer, List<Set<List<Integer>>>> REACHED = new HashMap<>();

    /** All lawful sets for so many places, each as the places' partners. */
    static List<int[]> setsFor(int n) {
        if (!SETS.containsKey(n)) {
            List<int[]> pairs = new ArrayList<>();
            for (int a = 0; a < n; a++) {
                for (int b = a + 1; b < n; b++) {
                    pairs.add(new int[] {a, b});
                }
            }
            List<int[]> sets = new ArrayList<>();
            for (int chosen = 0; chosen < 1 << pairs.size(); chosen++) {
                if (Integer.bitCount(chosen) <= 3 && isLawful(pairs, chosen)) {
                    int[] partners = new int[n];
                    for (int k = 0; k < n; k++) {
                        partners[k] = k;
                    }
                    for (int i = 0; i < pairs.size(); i++) {
                        if ((chosen >> i & 1) != 0) {
                            partners[pairs.get(i)[0]] = pairs.get(i)[1];
                            partners[pairs.get(i)[1]] = pairs.get(i)[0];
                        }
                    }
                    sets.add(partners);
                }
            }
            SETS.put(n, sets);
        }
        return SETS.get(n);
    }

    private static boolean isLawful(List<int[]> pairs, int chosen) {
        for (int i = 0; i < pairs.size(); i++) {
            int[] one = pairs.get(i);
            if ((chosen >> i & 1) == 0) {
                continue;
            }
            Set<Integer> covered = new HashSet<>();
            for (int j = 0; j < pairs.size(); j++) {
                int[] other = pairs.get(j);
                if (j == i || (chosen >> j & 1) == 0) {
                    continue;
                }
                if (one[0] == other[0] || one[0] == other[1] || one[1] == other[0] || one[1] == other[1]) {
                    return false;
                }
                if (other[0] > one[0] && other[1] < one[1]) {
                    covered.add(other[0]);
                    covered.add(other[1]);
                }
            }
            if (covered.size() != one[1] - one[0] - 1) {
                return false;
            }
        }
        return true;
    }

    private static int pairsIn(int[] partners) {
        int moved = 0;
        for (int k = 0; k < partners.length; k++) {
            moved += partners[k] != k ? 1 : 0;
        }
        return moved / 2;
    }

    /** For each number of days the orders of places that can stand then. */
    static List<Set<List<Integer>>> reached(int n) {
        if (!REACHED.containsKey(n)) {
            List<Integer> now = new ArrayList<>();
            for (int k = 0; k < n; k++) {
                now.add(k);
            }
            List<Set<List<Integer>>> all = new ArrayList<>();
            all.add(new HashSet<>(Collections.singleton(now)));
            for (int d = 1; d <= 6; d++) {
                Set<List<Integer>> next = new HashSet<>();
                for (List<Integer> order : all.get(d - 1)) {
                    for (int[] partners : setsFor(n)) {
                        List<Integer> then = new ArrayList<>();
                        for (int k = 0; k < n; k++) {
                            then.add(order.get(partners[k]));
                        }
                        next.add(then);
                    }
                }
                all.add(next);
            }
            REACHED.put(n, all);
        }
        return REACHED.get(n);
    }

    private int orderFault(String s) {
        Set<Character> there = new HashSet<>();
        for (int p = 0; p < s.length(); p++) {
            char c = s.charAt(p);
            if (p == size() || c < '0' || c >= '0' + size() || !there.add(c)) {
                return p;
            }
        }
        return s.length() < size() ? s.length() : -1;
    }

    private static List<Integer> orderOf(String s) {
        List<Integer> order = new ArrayList<>();
        for (char c : s.toCharArray()) {
            order.add(c - '0');
        }
        return order;
    }

    // ---- all calls

    long call(String name, int... a) {
        switch (name) {
            case "sign": return sign(a[0]);
            case "end": return end(a[0]) ? 1 : 0;
            case "boats": return boats();
            case "rule": return rule();
            case "boat": return boat(a[0], a[1]);
            case "at": return a[0] < 0 || a[0] >= size() ? Check.THROWN : world.line.get(a[0]).id;
            case "sheet": return sheet(a[0], a[1], a[2], a[3]);
            case "days": return daysCall(a[0]);
            case "scratches": case "rests": case "paces": case "gap": case "strokes": return actCall(name, a);
            case "week": return week();
            case "undo": return undo();
            case "race": return race();
            case "lies": return lies(a[0], a[1]);
            case "over": return over();
            case "closest": return closest(a[0]);
            case "later": return later(a[0], a[1]);
            case "head": return head(a[0]);
            case "bumps": return bumps(a[0], a[1]);
            case "blades": return blades(a[0]);
            case "round": return round();
            case "sets": return sets();
            case "orders": return orders(a[0]);
            case "best": return best(a[0], a[1]);
            case "soonest": return soonest();
            case "crossed": return crossed();
            case "chart": return chart();
            case "spurs": return spurs(a[0]);
            case "calm": return calm();
            case "differ": return differ(a[0], a[1]);
            case "helps": return helps(a[0], a[1]);
            case "heard": return heard(a[0], a[1]);
            case "forget": return forget();
            case "fits": return fits();
            case "asks": return asks();
            case "likely": return likely(a[0], a[1]);
            case "pulls": return pulls(a[0], a[1]);
            case "law": return law();
            case "crews": return crews(a[0]);
            case "years": return years(a[0], a[1]);
            case "keep": return keep(a[0]);
            case "again": return again(a[0]);
            case "count": return count(a[0]);
            case "row": return a[0] < 0 || a[0] >= row.size() ? Check.THROWN : row.get(a[0]);
            default: throw new IllegalArgumentException(name);
        }
    }

    private long sign(int v) {
        if (text.length() > 76) {
            return -1;
        }
        for (byte b : java.nio.ByteBuffer.allocate(4).putInt(v).array()) {
            text += (char) Byte.toUnsignedInt(b);
        }
        return text.length();
    }

    private boolean end(int n) {
        if (n < 0 || n > text.length()) {
            return false;
        }
        text = text.substring(0, n);
        return true;
    }

    private long boats() {
        String s = take();
        if (s.isEmpty()) {
            return 0;
        }
        int room = 6 - size();
        String line = "[1-9][0-9]";
        String beginning = room == 0 ? "" : "(" + line + ";){0," + room + "}|(" + line + ";){0," + (room - 1) + "}[1-9][0-9]?";
        String whole = room == 0 ? "" : "(" + line + ";){0," + (room - 1) + "}" + line;
        int fault = fault(s, 17, beginning, whole);
        if (fault >= 0) {
            return -1 - fault;
        }
        for (String each : s.split(";")) {
            world.line.add(new Crew(size(), each.charAt(0) - '0', each.charAt(1) - '0'));
        }
        past.clear();
        kept = new World[3];
        return s.split(";").length;
    }

    private long rule() {
        String s = take();
        if (s.isEmpty()) {
            rule = STANDARD;
            return 0;
        }
        int fault = ruleFault(s);
        if (fault >= 0) {
            return -1 - fault;
        }
        rule = s;
        return 0;
    }

    private long boat(int id, int what) {
        if (!has(id) || what < 0 || what > 5) {
            return Check.THROWN;
        }
        Crew crew = world.crew(id);
        int place = world.place(id);
        long[] answers = {crew.pace, crew.tired, place, place == 0 ? -1 : world.line.get(place - 1).id,
            course().touchedBy(id), course().toucherOf(id)};
        return answers[what];
    }

    private long sheet(int kind, int n, int f, int step) {
        if (kind < 0 || kind > 3 || n > 6) {
            return -1;
        }
        if (kind < 3 && n < 0) {
            return -2;
        }
        long sum = 0;
        int entry = f;
        for (int id = 0; id < size(); id++) {
            int read = kind == 0 ? (byte) entry : kind == 1 ? (short) entry : entry;
            entry += step;
            world.crew(id).pace = kind == 3 || id >= n ? 1 : read < 1 ? 1 : read > 9 ? 9 : read;
            sum += world.crew(id).pace;
        }
        return kind == 3 ? -3 : sum;
    }

    private long daysCall(int n) {
        if (n < 0 || n > 60) {
            return -2;
        }
        push(world.copy());
        tell(days(world, rule, n));
        return world.head();
    }

    private long act(String name, int... a) {
        long was;
        switch (name) {
            case "scratches":
                if (!has(a[0])) {
                    return -1;
                }
                was = world.place(a[0]);
                if (was == size() - 1) {
                    return -2;
                }
                world.line.add(world.line.remove((int) was));
                return was;
            case "rests":
                if (!has(a[0])) {
                    return -1;
                }
                was = world.crew(a[0]).tired;
                world.crew(a[0]).tired = 0;
                return was == 0 ? -2 : was;
            case "paces":
                if (!has(a[0]) || a[1] < 1 || a[1] > 9) {
                    return -1;
                }
                was = world.crew(a[0]).pace;
                world.crew(a[0]).pace = a[1];
                return was == a[1] ? -2 : was;
            case "gap":
                if (a[0] < 1 || a[0] > 30) {
                    return -1;
                }
                was = world.gap;
                world.gap = a[0];
                return was == a[0] ? -2 : was;
            default:
                if (a[0] < 1 || a[0] > 40) {
                    return -1;
                }
                was = world.strokes;
                world.strokes = a[0];
                return was == a[0] ? -2 : was;
        }
    }

    private long actCall(String name, int... a) {
        World before = world.copy();
        long answer = act(name, a);
        if (answer >= 0) {
            push(before);
        }
        return answer;
    }

    private long week() {
        String s = take();
        String act = "[nsr][0-9]|[gk][0-9][0-9]|p[0-9][1-9]";
        int fault = fault(s, 60, "(" + act + ")*([nsr]|[gkp][0-9]?)?", "(" + act + ")*");
        if (fault >= 0) {
            return -1 - fault;
        }
        World before = world.copy();
        int done = 0;
        boolean refused = false;
        while (!s.isEmpty() && !refused) {
            char kind = s.charAt(0);
            int first = s.charAt(1) - '0';
            int length = "nsr".indexOf(kind) >= 0 ? 2 : 3;
            int two = length == 3 ? Integer.parseInt(s.substring(1, 3)) : 0;
            if (kind == 'n') {
                days(world, rule, first);
            } else {
                refused = (kind == 's' ? act("scratches", first) : kind == 'r' ? act("rests", first)
                    : kind == 'p' ? act("paces", first, two % 10) : kind == 'g' ? act("gap", two)
                    : act("strokes", two)) < 0;
            }
            done += refused ? 0 : 1;
            s = s.substring(length);
        }
        if (done > 0) {
            push(before);
        }
        tell(refused ? 1 : 0, world.day);
        return done;
    }

    private long undo() {
        if (past.isEmpty()) {
            return -1;
        }
        world = past.removeLast();
        return past.size();
    }

    private long race() {
        Course course = course();
        tell();
        for (int[] touch : course.touches) {
            for (int number : touch) {
                row.add((long) number);
            }
        }
        return course.touches.size();
    }

    private long lies(int id, int t) {
        if (!has(id) || t < 0 || t > 40) {
            return -1;
        }
        Course course = new Course(world, rule, t);
        tell(course.racing.get(t).contains(id) ? 1 : 0);
        return 1000 + course.lies.get(t).get(id);
    }

    private long over() {
        Course course = course();
        int bits = 0;
        for (int id : course.racing.get(world.strokes)) {
            bits |= 1 << id;
        }
        tell(course.bits(1), course.bits(2));
        return bits;
    }

    private long closest(int id) {
        if (!has(id)) {
            return -1;
        }
        Course course = course();
        int fewest = Integer.MAX_VALUE;
        for (int t = 0; t <= world.strokes; t++) {
            List<Integer> racing = new ArrayList<>(course.racing.get(t));
            int at = racing.indexOf(id);
            if (at > 0) {
                int feet = course.lies.get(t).get(racing.get(at - 1)) - course.lies.get(t).get(id);
                if (feet < fewest) {
                    fewest = feet;
                    tell(t, racing.get(at - 1));
                }
            }
        }
        return fewest == Integer.MAX_VALUE ? -2 : fewest;
    }

    private long later(int id, int n) {
        if (!has(id) || n < 0 || n > 60) {
            return -1;
        }
        World then = world.copy();
        int pairs = days(then, rule, n);
        tell(then.crew(id).tired, pairs);
        return then.place(id);
    }

    private long head(int id) {
        if (!has(id)) {
            return -1;
        }
        if (world.head() == id) {
            tell(-1);
            return 0;
        }
        World then = world.copy();
        for (int n = 1; n <= 60; n++) {
            int former = then.head();
            day(then, rule);
            if (then.head() == id) {
                tell(former);
                return n;
            }
        }
        return -2;
    }

    private long bumps(int one, int other) {
        if (!has(one) || !has(other) || one == other) {
            return -1;
        }
        List<Integer> on = new ArrayList<>();
        World then = world.copy();
        for (int n = 1; n <= 60; n++) {
            if (new Course(then, rule, then.strokes).touchedBy(one) == other) {
                on.add(n);
            }
            day(then, rule);
        }
        if (on.isEmpty()) {
            return -2;
        }
        tell(on.size());
        return on.get(0);
    }

    private long blades(int n) {
        if (n < 1 || n > 9) {
            return -1;
        }
        World then = world.copy();
        int touch = -1;
        int touched = -1;
        for (int k = 0; k < n; k++) {
            Course course = new Course(then, rule, then.strokes);
            touch &= course.bits(1);
            touched &= course.bits(2);
            day(then, rule);
        }
        tell(touched);
        return touch;
    }

    private long round() {
        World then = world.copy();
        Set<List<Integer>> orders = new HashSet<>();
        orders.add(world.ids());
        for (int n = 1; n <= 60; n++) {
            day(then, rule);
            orders.add(then.ids());
            if (then.ids().equals(world.ids())) {
                tell(orders.size());
                return n;
            }
        }
        return -2;
    }

    private long sets() {
        int most = 0;
        for (int[] set : setsFor(size())) {
            most = Math.max(most, pairsIn(set));
        }
        int such = 0;
        for (int[] set : setsFor(size())) {
            such += pairsIn(set) == most ? 1 : 0;
        }
        tell(most, such);
        return setsFor(size()).size();
    }

    private long orders(int d) {
        if (d < 0 || d > 6) {
            return -1;
        }
        Set<List<Integer>> fresh = new HashSet<>(reached(size()).get(d));
        for (int e = 0; e < d; e++) {
            fresh.removeAll(reached(size()).get(e));
        }
        tell(fresh.size());
        return reached(size()).get(d).size();
    }

    private long best(int id, int d) {
        if (!has(id) || d < 0 || d > 6) {
            return -1;
        }
        List<Integer> places = new ArrayList<>();
        for (List<Integer> order : reached(size()).get(d)) {
            places.add(order.indexOf(world.place(id)));
        }
        int least = Collections.min(places);
        tell(Collections.max(places), Collections.frequency(places, least));
        return least;
    }

    private long soonest() {
        String s = take();
        int fault = orderFault(s);
        if (fault >= 0) {
            return -1 - fault;
        }
        List<Integer> from = new ArrayList<>();
        for (int id : orderOf(s)) {
            from.add(world.place(id));
        }
        for (int d = 0; d <= 6; d++) {
            if (reached(size()).get(d).contains(from)) {
                return d;
            }
        }
        throw new IllegalStateException("an order that never stands");
    }

    private long crossed() {
        String s = take();
        int fault = orderFault(s);
        if (fault >= 0) {
            return -1 - fault;
        }
        List<Integer> then = orderOf(s);
        int lines = 0;
        for (int a = 0; a < size(); a++) {
            for (int b = 0; b < a; b++) {
                boolean now = world.place(a) < world.place(b);
                lines += now != then.indexOf(a) < then.indexOf(b) ? 1 : 0;
            }
        }
        int who = 0;
        int most = 0;
        for (int id = size() - 1; id >= 0; id--) {
            int moves = Math.abs(world.place(id) - then.indexOf(id));
            if (moves >= most) {
                who = id;
                most = moves;
            }
        }
        tell(who, most);
        return lines;
    }

    private long chart() {
        String s = take();
        String[] told = s.split(";", -1);
        int from = 0;
        for (int i = 0; i < told.length; i++) {
            int fault = orderFault(told[i]);
            if (fault >= 0) {
                return -1 - (from + fault);
            }
            from += told[i].length() + 1;
        }
        List<Integer> now = world.ids();
        int good = 0;
        int pairs = 0;
        for (String each : told) {
            int found = -1;
            for (int[] set : setsFor(size())) {
                List<Integer> then = new ArrayList<>();
                for (int k = 0; k < size(); k++) {
                    then.add(now.get(set[k]));
                }
                if (then.equals(orderOf(each))) {
                    found = pairsIn(set);
                }
            }
            if (found < 0) {
                break;
            }
            pairs = found;
            good++;
            now = orderOf(each);
        }
        tell(good == told.length ? 1 : 0, pairs);
        return good;
    }

    private long spurs(int id) {
        if (!has(id)) {
            return -1;
        }
        for (int v = 1; v <= 9; v++) {
            World then = world.copy();
            then.crew(id).pace = v;
            for (int[] touch : new Course(then, rule, then.strokes).touches) {
                if (touch[1] == id) {
                    tell(touch[2], touch[0]);
                    return v;
                }
            }
        }
        return -2;
    }

    private long calm() {
        List<Integer> calm = new ArrayList<>();
        for (int v = 1; v <= 30; v++) {
            World then = world.copy();
            then.gap = v;
            if (day(then, rule) == 0) {
                calm.add(v);
            }
        }
        if (calm.isEmpty()) {
            return -2;
        }
        tell(calm.size());
        return calm.get(0);
    }

    private long differ(int a, int b) {
        if (Math.min(a, b) < 1 || Math.max(a, b) > 30) {
            return -1;
        }
        World one = world.copy();
        World other = world.copy();
        one.gap = a;
        other.gap = b;
        for (int n = 1; n <= 60; n++) {
            day(one, rule);
            day(other, rule);
            for (int k = 0; k < size(); k++) {
                if (one.line.get(k).id != other.line.get(k).id) {
                    tell(k, one.line.get(k).id, other.line.get(k).id);
                    return n;
                }
            }
        }
        return -2;
    }

    private long helps(int id, int n) {
        if (!has(id) || n < 1 || n > 30) {
            return -1;
        }
        World plain = world.copy();
        days(plain, rule, n);
        int helper = -1;
        int least = 99;
        for (int rested = 0; rested < size(); rested++) {
            World then = world.copy();
            then.crew(rested).tired = 0;
            days(then, rule, n);
            if (then.place(id) < least) {
                least = then.place(id);
                helper = rested;
            }
        }
        tell(least, plain.place(id));
        return helper;
    }

    private static boolean hearable(int what, int v) {
        return what == 0 && v >= 1 && v <= 9 || what == 1 && v >= 0 && v <= 9 || what == 2 && v >= 0 && v <= 5
            || (what == 3 || what == 4) && (v == 0 || v == 1);
    }

    private boolean isSo(Course course, int id, int what, int v) {
        switch (what) {
            case 0: return world.crew(id).pace >= v;
            case 1: return world.crew(id).tired >= v;
            case 2: return world.place(id) <= v;
            case 3: return course.touchedBy(id) >= 0 == (v == 1);
            default: return course.toucherOf(id) >= 0 == (v == 1);
        }
    }

    private long heard(int what, int v) {
        if (!hearable(what, v) || rumours.size() == 12) {
            return -1;
        }
        rumours.add(new int[] {what, v});
        return rumours.size();
    }

    private long forget() {
        int had = rumours.size();
        rumours.clear();
        return had;
    }

    private List<Integer> fitting() {
        List<Integer> fitting = new ArrayList<>();
        Course course = course();
        for (int id = 0; id < size(); id++) {
            boolean fits = true;
            for (int[] rumour : rumours) {
                fits &= isSo(course, id, rumour[0], rumour[1]);
            }
            if (fits) {
                fitting.add(id);
            }
        }
        return fitting;
    }

    private long fits() {
        int bits = 0;
        for (int id : fitting()) {
            bits |= 1 << id;
        }
        tell(fitting().size());
        return bits;
    }

    private long asks() {
        List<Integer> fitting = fitting();
        if (fitting.isEmpty()) {
            return -2;
        }
        Course course = course();
        int fewest = 99;
        int question = -1;
        for (int q = 0; q < 50; q++) {
            int so = 0;
            for (int id : fitting) {
                so += isSo(course, id, q / 10, q % 10) ? 1 : 0;
            }
            int left = Math.max(so, fitting.size() - so);
            if (hearable(q / 10, q % 10) && left < fewest) {
                fewest = left;
                question = q;
            }
        }
        tell(fewest);
        return question;
    }

    private long likely(int id, int p) {
        if (!has(id) || p < 0 || p > 10) {
            return -1;
        }
        BigInteger upper = BigInteger.ZERO;
        BigInteger lower = BigInteger.TEN.pow(size());
        for (int better = 0; better < 1 << size(); better++) {
            World then = world.copy();
            for (Crew crew : then.line) {
                crew.pace += better >> crew.id & 1;
            }
            int more = Integer.bitCount(better);
            if (new Course(then, rule, then.strokes).touchedBy(id) >= 0) {
                upper = upper.add(BigInteger.valueOf(p).pow(more)
                    .multiply(BigInteger.valueOf(10 - p).pow(size() - more)));
            }
        }
        BigInteger shared = upper.gcd(lower);
        tell(upper.divide(shared).longValue(), lower.divide(shared).longValue());
        return 0;
    }

    private static List<Integer> moves(int left, int k) {
        List<Integer> moves = new ArrayList<>();
        for (int m = 1; m <= k && m <= left; m++) {
            moves.add(m);
        }
        if (left % 2 == 0 && left > 0) {
            moves.add(left / 2);
        }
        Collections.sort(moves);
        return moves;
    }

    private static int winner(int left, int k, Map<Integer, Integer> known) {
        if (left == 0) {
            return 0;
        }
        if (!known.containsKey(left)) {
            int best = 0;
            for (int m : moves(left, k)) {
                boolean otherHasWon = left - m == 0;
                if (best == 0 && !otherHasWon && winner(left - m, k, known) == 0) {
                    best = m;
                }
            }
            known.put(left, best);
        }
        return known.get(left);
    }

    private long pulls(int n, int k) {
        return n < 0 || n > 60 || k < 2 || k > 9 ? -1 : winner(n, k, new HashMap<>());
    }

    private long law() {
        String s = take();
        int fault = s.isEmpty() ? -1 : ruleFault(s);
        if (fault >= 0) {
            return -10000 - fault;
        }
        World then = world.copy();
        int by = day(then, s.isEmpty() ? STANDARD : s);
        int now = course().touches.size();
        tell(by, now);
        for (int id : then.ids()) {
            row.add((long) id);
        }
        return by - now;
    }

    private static int has(int x, int y, int v) {
        return x > y ? v - x : x == y ? -x : -x - 1;
    }

    private long crews(int v) {
        if (v < 0 || v > 20) {
            return -1;
        }
        tell();
        int count = 0;
        for (int pair = 99; pair >= 0; pair--) {
            boolean stays = true;
            for (int z = 0; z <= 9; z++) {
                stays &= has(z, pair % 10, v) <= has(pair / 10, pair % 10, v);
                stays &= has(z, pair / 10, v) <= has(pair % 10, pair / 10, v);
            }
            if (stays) {
                tell(pair / 10, pair % 10);
                count++;
            }
        }
        return count;
    }

    private long drawn;

    private int draw(int n) {
        drawn = (drawn * 1103515245L + 12345L) & 0xFFFFFFFFL;
        return (int) (drawn / 65536 % n);
    }

    private long years(int seed, int n) {
        if (n < 1 || n > 60) {
            return -2;
        }
        World real = world;
        world = real.copy();
        drawn = seed & 0xFFFFFFFFL;
        int pairs = 0;
        for (int k = 0; k < n; k++) {
            int kind = draw(4);
            if (kind <= 1) {
                pairs += day(world, rule);
            } else if (size() > 0) {
                int id = draw(size());
                if (kind == 2) {
                    world.crew(id).pace = draw(9) + 1;
                } else {
                    act("scratches", id);
                }
            }
        }
        int tired = 0;
        for (Crew crew : world.line) {
            tired += crew.tired;
        }
        tell(pairs, tired);
        int head = world.head();
        world = real;
        return head;
    }

    private long keep(int i) {
        if (i < 0 || i > 2) {
            return 0;
        }
        kept[i] = world.copy();
        return 1;
    }

    private long again(int i) {
        if (i < 0 || i > 2 || kept[i] == null) {
            return 0;
        }
        world = kept[i].copy();
        past.clear();
        return 1;
    }

    private long count(int what) {
        int paces = 0;
        int tired = 0;
        for (Crew crew : world.line) {
            paces += crew.pace;
            tired += crew.tired;
        }
        int[] answers = {size(), world.gap, world.strokes, world.day, world.touches, paces, tired,
            rumours.size(), past.size(), row.size(), text.length()};
        return what < 0 || what >= answers.length ? -100 : answers[what];
    }
}
