import java.lang.reflect.InvocationTargetException;
import java.lang.reflect.Method;
import java.lang.reflect.Modifier;
import java.util.Arrays;
import java.util.List;
import java.util.NoSuchElementException;

/**
 * Every call with numbers from the ends of int and of the document's ranges, on rivers of many kinds:
 * nothing is thrown but what the document names, and what is refused or asked changes nothing.
 */
public final class WildTest {
    private static final Check CHECK = new Check("wild");
    private static final int[] NUMBERS = {Integer.MIN_VALUE, Integer.MIN_VALUE + 1, -65536, -100, -3, -2, -1, 0, 1, 2, 3,
        4, 5, 6, 7, 9, 10, 11, 12, 30, 31, 40, 41, 60, 61, 79, 80, 81, 255, 65535, Integer.MAX_VALUE - 1, Integer.MAX_VALUE};
    /** For the call that takes four. */
    private static final int[] FEW = {Integer.MIN_VALUE, -129, -1, 0, 1, 2, 3, 4, 6, 7, 32768, Integer.MAX_VALUE};
    private static final String[] TEXTS = {"", "0", "1", "x", ";", "-", "(", "n", "g0", "p00", "012345", "543210", "0;0",
        "11", "11;11;11;11;11;11", "s0s1s2s3s4s5", "n9n9n9", "g99", "k00", "((((p))))", "(((((p)))))", "1/0", "-999*999*999",
        "0-999*999*999*999*999*999/(0-1)", "p=p=p", Check.times("-", 80), Check.times("(", 80), Check.times(";", 80),
        Check.times("0", 80), Check.times("n1", 40), Check.times("9*", 40), Check.times("11;", 27),
        Check.times("" + (char) 255, 80), Check.times("\0", 80)};
    private static final List<String> READERS = Arrays.asList("boats", "rule", "week", "soonest", "crossed", "chart", "law");
    private static final List<String> THROWERS = Arrays.asList("boat", "at", "row");
    /** What may change the river or THE TEXT, what was heard, what is kept; all others are questions. */
    private static final List<String> ACTS = Arrays.asList("sign", "end", "boats", "rule", "sheet", "days", "scratches",
        "rests", "paces", "gap", "strokes", "week", "undo", "heard", "forget", "again");

    public static void main(String[] args) throws IllegalAccessException {
        int kinds = 0;
        for (; river(kinds) != null; kinds++) {
            for (Method method : BumpsRiver.class.getDeclaredMethods()) {
                if (Modifier.isPublic(method.getModifiers())) {
                    everyWay(kinds, method);
                }
            }
        }
        CHECK.due("kinds of rivers", kinds, 7);
        CHECK.finish();
    }

    /** A new river of a kind, or null if there are no more kinds. */
    private static BumpsRiver river(int kind) {
        BumpsRiver river;
        switch (kind) {
            case 0:
                return new BumpsRiver();
            case 1:
                return Check.with("99");
            case 2:
                return Check.with("30;50;40");
            case 3:
                return Check.with("19;28;37;46;55;64", "p+(g<5)*2-x/(b-9)");
            case 4:
                river = Check.with("99;90;99;90;99;90", "-999*999*999*999*999/(0-1)+t*t*t");
                river.gap(1);
                river.strokes(40);
                return river;
            case 5:
                river = Check.with("11;21;31;41;51;61");
                fill(river);
                return river;
            case 6:
                river = Check.with("90;10", "0");
                river.keep(0);
                river.days(60);
                Check.say(river, Check.times("012;", 20));
                return river;
            default:
                return null;
        }
    }

    /** As much as can be heard, kept and undone. */
    private static void fill(BumpsRiver river) {
        for (int i = 0; i < 12; i++) {
            river.heard(i % 3, 1);
        }
        for (int i = 0; i < 16; i++) {
            river.days(i);
        }
        for (int i = 0; i < 3; i++) {
            river.keep(i);
        }
        river.law();
    }

    private static void everyWay(int kind, Method method) throws IllegalAccessException {
        int takes = method.getParameterCount();
        int[] numbers = takes > 2 ? FEW : NUMBERS;
        int ways = 1;
        for (int i = 0; i < takes; i++) {
            ways *= numbers.length;
        }
        for (int way = 0; way < ways; way++) {
            Object[] arguments = new Object[takes];
            int rest = way;
            for (int i = 0; i < takes; i++) {
                arguments[i] = numbers[rest % numbers.length];
                rest /= numbers.length;
            }
            call(river(kind), kind, method, arguments);
        }
        for (String text : READERS.contains(method.getName()) ? TEXTS : new String[0]) {
            BumpsRiver river = river(kind);
            Check.say(river, text);
            call(river, kind, method);
        }
    }

    private static void call(BumpsRiver river, int kind, Method method, Object... arguments) throws IllegalAccessException {
        String name = method.getName();
        String before = seen(river);
        String row = Check.rowOf(river);
        int signs = river.count(10);
        String call = "river " + kind + ": " + name + Arrays.toString(arguments);
        long answer = answer(call, river, method, arguments);
        // without boats these answer NONE, as nobody is at the head, and are done
        boolean refused = answer == -1 && !name.equals("days") && !name.equals("years");
        if (refused || !ACTS.contains(name)) {
            CHECK.due(call + " changes nothing", seen(river), before);
        }
        if (refused && method.getReturnType() == int.class && !name.equals("law") && !name.equals("boat")) {
            CHECK.due(call + " tells no row", Check.rowOf(river), row);
        }
        int left = READERS.contains(name) ? 0 : signs;
        if (!name.equals("sign") && !name.equals("end")) {
            CHECK.due(call + " leaves signs", river.count(10), left);
        }
    }

    /** What a call answered; true counts 1, and false is NONE, as it is the answer of what is refused. */
    private static long answer(String call, BumpsRiver river, Method method, Object... arguments)
        throws IllegalAccessException {
        try {
            Object answer = method.invoke(river, arguments);
            return answer instanceof Boolean ? ((Boolean) answer ? 1 : -1) : ((Number) answer).longValue();
        } catch (InvocationTargetException e) {
            boolean named = e.getCause() instanceof NoSuchElementException && THROWERS.contains(method.getName());
            CHECK.due(call, named ? "as the document says" : e.getCause().toString(), "as the document says");
            return -1;
        }
    }

    /** The river, what was heard and what can be undone. */
    private static String seen(BumpsRiver river) {
        return Check.state(river) + river.count(7) + " " + river.count(8);
    }
}
