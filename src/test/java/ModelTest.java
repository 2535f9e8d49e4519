import java.lang.reflect.InvocationTargetException;
import java.lang.reflect.Method;
import java.util.ArrayList;
import java.util.Arrays;
import java.util.HashMap;
import java.util.List;
import java.util.Map;
import java.util.NoSuchElementException;
import java.util.Random;

/** Runs of drawn calls, on the class and on the plain telling of the document; both must answer alike. */
public final class ModelTest {
    private static final int RUNS = 150;
    private static final int CALLS = 160;
    private static final Map<String, Method> METHODS = new HashMap<>();
    private static final String[] READERS = {"boats", "rule", "week", "soonest", "crossed", "chart", "law"};

    private final Random random;
    private final Check check;
    private final int run;
    private final BumpsRiver river = new BumpsRiver();
    private final PlainRiver plain = new PlainRiver();
    private final List<String> log = new ArrayList<>();
    private boolean broken;

    private ModelTest(int run, Check check) {
        this.run = run;
        this.check = check;
        this.random = new Random(run * 7919L + 17);
    }

    public static void main(String[] args) {
        for (Method method : BumpsRiver.class.getMethods()) {
            if (method.getDeclaringClass() == BumpsRiver.class) {
                METHODS.put(method.getName(), method);
            }
        }
        int runs = args.length > 0 ? Integer.parseInt(args[0]) : RUNS;
        int first = args.length > 1 ? Integer.parseInt(args[1]) : 0;
        Check check = new Check("model");
        for (int run = first; run < first + runs; run++) {
            new ModelTest(run, check).play();
        }
        check.finish();
    }

    private void play() {
        if (random.nextInt(8) > 0) {
            say(boatsText(1 + random.nextInt(6)));
            call("boats");
        }
        if (random.nextInt(3) > 0) {
            say(ruleText());
            call("rule");
        }
        for (int i = 0; i < CALLS && !broken; i++) {
            step();
        }
    }

    private void step() {
        if (random.nextInt(4) == 0) {
            String reader = READERS[random.nextInt(READERS.length)];
            say(textFor(reader));
            call(reader);
            return;
        }
        List<String> names = new ArrayList<>(METHODS.keySet());
        java.util.Collections.sort(names);
        String name = names.get(random.nextInt(names.size()));
        int[] arguments = new int[METHODS.get(name).getParameterCount()];
        for (int i = 0; i < arguments.length; i++) {
            arguments[i] = argument(name, i);
        }
        call(name, arguments);
    }

    private int argument(String name, int i) {
        int kind = random.nextInt(20);
        if (kind == 0) {
            return random.nextInt();
        }
        if (kind == 1) {
            return new int[] {-1, Integer.MIN_VALUE, Integer.MAX_VALUE, -2, 61, 41, 31, 10}[random.nextInt(8)];
        }
        switch (name) {
            case "days": return random.nextInt(6);
            case "gap": case "differ": return random.nextInt(32);
            case "strokes": return random.nextInt(42);
            case "lies": return i == 0 ? random.nextInt(6) : random.nextInt(42);
            case "later": return i == 0 ? random.nextInt(6) : random.nextInt(30);
            case "helps": return i == 0 ? random.nextInt(6) : random.nextInt(12);
            case "pulls": return i == 0 ? random.nextInt(62) : random.nextInt(11);
            case "years": return i == 0 ? random.nextInt() : random.nextInt(30);
            case "crews": return random.nextInt(22);
            case "sheet": return i == 0 ? random.nextInt(5) : i == 1 ? random.nextInt(9) - 1
                : i == 2 ? random.nextInt(70000) - 35000 : random.nextInt(5) - 2;
            case "heard": return i == 0 ? random.nextInt(6) : random.nextInt(6);
            case "likely": return i == 0 ? random.nextInt(6) : random.nextInt(12);
            case "count": return random.nextInt(13) - 1;
            case "paces": case "blades": case "end": return random.nextInt(10);
            case "keep": case "again": return random.nextInt(4);
            case "sign": return 0x30303030 + random.nextInt(4) * 0x01010101;
            default: return random.nextInt(7);
        }
    }

    // ---- texts, most of them good ones

    private String textFor(String reader) {
        String text;
        switch (reader) {
            case "boats": text = random.nextInt(4) > 0 ? "" : boatsText(1 + random.nextInt(3)); break;
            case "rule": text = random.nextInt(4) == 0 ? "" : ruleText(); break;
            case "law": text = ruleText(); break;
            case "week": text = weekText(); break;
            case "chart": text = chartText(); break;
            default: text = orderText(); break;
        }
        return random.nextInt(4) == 0 ? spoiled(text) : text;
    }

    private String spoiled(String text) {
        String signs = "0123456789;;()pxtigbn+-*/<>=srk z";
        StringBuilder spoiled = new StringBuilder(text);
        int at = random.nextInt(text.length() + 1);
        char sign = random.nextInt(20) == 0 ? (char) random.nextInt(256) : signs.charAt(random.nextInt(signs.length()));
        switch (random.nextInt(4)) {
            case 0: spoiled.insert(at, sign); break;
            case 1: spoiled.setLength(at); break;
            case 2: spoiled.append(sign); break;
            default:
                if (at < text.length()) {
                    spoiled.setCharAt(at, sign);
                }
        }
        return spoiled.substring(0, Math.min(80, spoiled.length()));
    }

    private String boatsText(int lines) {
        StringBuilder text = new StringBuilder();
        for (int i = 0; i < lines; i++) {
            text.append(i > 0 ? ";" : "").append(1 + random.nextInt(9)).append(random.nextInt(10));
        }
        return text.toString();
    }

    private String ruleText() {
        String[] known = {"p-x/4", "p", "p-x/3", "p+(g<5)*2-x/4", "(b<4)*3+p/2", "p-t/5", "9-i", "p+n", "p*2-x",
            "12-p", "g/3", "20", "0", "p+t/(9-x)", "(p>4)*3+(x<5)*2+(n=2)", "--p---x+--3", "(((p)))-(x/(2+i))"};
        return random.nextInt(2) == 0 ? known[random.nextInt(known.length)] : drawnRule(3, 0);
    }

    private String drawnRule(int size, int deep) {
        if (size <= 0 || random.nextInt(4) == 0) {
            return random.nextInt(3) == 0 ? "" + random.nextInt(random.nextBoolean() ? 10 : 1100)
                : "" + "pxtigbn".charAt(random.nextInt(7));
        }
        switch (random.nextInt(6)) {
            case 0: return "-" + drawnRule(size - 1, deep);
            case 1: return "(" + drawnRule(size - 1, deep + 1) + ")";
            default: return drawnRule(size - 1, deep) + "+-*/<>=+-*".charAt(random.nextInt(10)) + drawnRule(size - 1, deep);
        }
    }

    private String weekText() {
        StringBuilder text = new StringBuilder();
        int acts = random.nextInt(12) == 0 ? 30 : random.nextInt(6);
        for (int i = 0; i < acts && text.length() < 64; i++) {
            char kind = "nsrpgk".charAt(random.nextInt(6));
            text.append(kind);
            if (kind == 'g' || kind == 'k') {
                int v = 1 + random.nextInt(kind == 'g' ? 31 : 41);
                text.append(v / 10).append(v % 10);
            } else if (kind == 'p') {
                text.append(random.nextInt(6)).append(1 + random.nextInt(9));
            } else {
                text.append(random.nextInt(kind == 'n' ? 4 : 6));
            }
        }
        return text.toString();
    }

    private List<Integer> standing() {
        return plain.world.ids();
    }

    private static String told(List<Integer> order) {
        StringBuilder text = new StringBuilder();
        for (int boat : order) {
            text.append(boat);
        }
        return text.toString();
    }

    private String orderText() {
        List<Integer> order = standing();
        java.util.Collections.shuffle(order, random);
        return told(order);
    }

    private String chartText() {
        StringBuilder text = new StringBuilder();
        List<Integer> now = standing();
        int days = 1 + random.nextInt(5);
        for (int i = 0; i < days && text.length() + now.size() + 1 <= 80; i++) {
            List<int[]> sets = PlainRiver.setsFor(now.size());
            int[] set = sets.get(random.nextInt(sets.size()));
            List<Integer> then = new ArrayList<>();
            for (int k = 0; k < now.size(); k++) {
                then.add(now.get(set[k]));
            }
            if (random.nextInt(6) == 0) {
                java.util.Collections.shuffle(then, random);
            }
            text.append(i > 0 ? ";" : "").append(told(then));
            now = then;
        }
        return text.toString();
    }

    // ---- calls on both

    private void say(String text) {
        if (random.nextInt(10) > 0) {
            call("end", 0);
        }
        int before = (int) plain.call("count", 10);
        int whole = Math.min(80 - before, text.length());
        for (int i = 0; i < text.length(); i += 4) {
            int v = 0;
            for (int k = i; k < i + 4; k++) {
                v = v << 8 | (k < text.length() ? text.charAt(k) : 0);
            }
            call("sign", v);
        }
        call("end", before + whole);
    }

    private void call(String name, int... arguments) {
        if (broken) {
            return;
        }
        String call = name + Arrays.toString(arguments);
        log.add(call);
        long want = plain.call(name, arguments);
        long got = answer(name, arguments);
        String row = Check.rowOf(river);
        if (got != want || !row.equals(plain.row.toString())) {
            broken = true;
            System.out.println("run " + run + ": " + String.join(" ", log));
            check.due("run " + run + " " + call, got + " " + row, want + " " + plain.row);
            return;
        }
        check.due(call, got, want);
        if (random.nextInt(12) == 0) {
            compareStates();
        }
    }

    private void compareStates() {
        for (int what = 0; what <= 10; what++) {
            check.due("run " + run + " count " + what, (long) river.count(what), plain.call("count", what));
        }
        for (int boat = 0; boat < river.count(0); boat++) {
            for (int what = 0; what < 6; what++) {
                check.due("run " + run + " boat", Check.boat(river, boat, what), plain.call("boat", boat, what));
            }
        }
    }

    private long answer(String name, int... arguments) {
        Object[] boxed = new Object[arguments.length];
        for (int i = 0; i < boxed.length; i++) {
            boxed[i] = arguments[i];
        }
        try {
            Object answer = METHODS.get(name).invoke(river, boxed);
            return answer instanceof Boolean ? ((Boolean) answer ? 1 : 0) : ((Number) answer).longValue();
        } catch (InvocationTargetException e) {
            if (e.getCause() instanceof NoSuchElementException) {
                return Check.THROWN;
            }
            e.getCause().printStackTrace(System.out);
            return Check.THROWN + 1;
        } catch (IllegalAccessException e) {
            throw new IllegalStateException(e);
        }
    }
}
