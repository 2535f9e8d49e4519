import java.lang.management.ManagementFactory;
import java.lang.reflect.Array;
import java.lang.reflect.Field;
import java.lang.reflect.Modifier;
import java.util.ArrayDeque;
import java.util.Collections;
import java.util.Deque;
import java.util.IdentityHashMap;
import java.util.Set;

/** All calls of a run live in one room: an object takes little of it, and calls make no objects. */
public final class RoomTest {
    private static final Check CHECK = new Check("room");
    private static final int MOST_OBJECTS = 300;
    private static final int MOST_ELEMENTS = 5000;
    /** Few, as a compiler that has seen more of them may leave out what the calls make. */
    private static final int ROUNDS = 4;

    public static void main(String[] args) throws IllegalAccessException {
        BumpsRiver river = Check.with("30;50;40;60;70;20", "p+(g<5)*2-x/(b-9)");
        int before = measure("new", new BumpsRiver());
        checkNothingIsMade(river);
        CHECK.due("it has not grown", measure("used", river), before);
        CHECK.finish();
    }

    /** Objects, arrays, fields and elements that can be reached from a river: all of them together. */
    private static int measure(String which, BumpsRiver river) throws IllegalAccessException {
        Set<Object> met = Collections.newSetFromMap(new IdentityHashMap<>());
        Deque<Object> open = new ArrayDeque<>();
        met.add(river);
        open.add(river);
        int elements = 0;
        while (!open.isEmpty()) {
            Object next = open.remove();
            if (next.getClass().isArray()) {
                elements += Array.getLength(next);
                for (int i = 0; i < Array.getLength(next) && !next.getClass().getComponentType().isPrimitive(); i++) {
                    meet(Array.get(next, i), met, open);
                }
            } else {
                for (Field field : next.getClass().getDeclaredFields()) {
                    if (!Modifier.isStatic(field.getModifiers())) {
                        elements++;
                        field.setAccessible(true);
                        meet(field.getType().isPrimitive() ? null : field.get(next), met, open);
                    }
                }
            }
        }
        CHECK.due("objects of a " + which + " river, " + met.size(), met.size() <= MOST_OBJECTS, true);
        CHECK.due("elements of a " + which + " river, " + elements, elements <= MOST_ELEMENTS, true);
        return met.size() + elements;
    }

    private static void meet(Object one, Set<Object> met, Deque<Object> open) {
        if (one != null && met.add(one)) {
            open.add(one);
        }
    }

    private static void checkNothingIsMade(BumpsRiver river) {
        java.lang.management.ThreadMXBean threads = ManagementFactory.getThreadMXBean();
        if (!(threads instanceof com.sun.management.ThreadMXBean)) {
            System.out.println("room: this machine does not tell what a thread makes");
            return;
        }
        com.sun.management.ThreadMXBean counter = (com.sun.management.ThreadMXBean) threads;
        long least = Long.MAX_VALUE;
        for (int round = 0; round < ROUNDS; round++) {
            // the machine itself makes some things in the first round
            long before = counter.getCurrentThreadAllocatedBytes();
            callAll(river);
            least = Math.min(least, counter.getCurrentThreadAllocatedBytes() - before);
        }
        CHECK.due("bytes made by calls", least, 0L);
    }

    /** Every call of the face, so that none throws. */
    private static void callAll(BumpsRiver river) {
        callBoats(river);
        callDays(river);
        callQuestions(river);
        callTexts(river);
    }

    private static void callBoats(BumpsRiver river) {
        river.boats();
        river.boat(1, 4);
        river.boat(1, 5);
        river.at(0);
        river.sheet(0, 3, 255, 300);
        river.sheet(1, 6, 3, 1);
        river.sheet(2, 6, 3, 1);
        river.sheet(3, 0, 0, 0);
        river.keep(0);
        river.again(0);
    }

    private static void callDays(BumpsRiver river) {
        river.days(3);
        river.scratches(2);
        river.rests(3);
        river.paces(1, 7);
        river.paces(1, 6);
        river.gap(8);
        river.gap(9);
        river.strokes(19);
        river.strokes(20);
        river.undo();
    }

    private static void callQuestions(BumpsRiver river) {
        for (int boat = 0; boat < 6; boat++) {
            river.lies(boat, 20);
            river.closest(boat);
            river.later(boat, 20);
            river.head(boat);
            river.bumps(boat, 0);
            river.best(boat, 3);
            river.spurs(boat);
            river.helps(boat, 5);
            river.likely(boat, 3);
            river.count(boat + 5);
        }
        river.race();
        river.over();
        river.row(0);
        river.blades(2);
        river.round();
        river.sets();
        river.orders(4);
        river.calm();
        river.differ(5, 25);
        river.heard(2, 3);
        river.fits();
        river.asks();
        river.forget();
        river.pulls(60, 9);
        river.crews(1);
        river.years(7, 60);
    }

    private static void callTexts(BumpsRiver river) {
        for (int text = 0; text < 5; text++) {
            river.end(0);
            for (int i = 0; i < 20; i++) {
                river.sign(text == 0 ? 0x702b702b : text == 1 ? 0x6e316e32 : 0x28287029);
            }
            river.end(text == 0 ? 39 : text == 1 ? 60 : 80);
            switch (text) {
                case 0: river.rule(); break;
                case 1: river.week(); break;
                case 2: river.law(); break;
                case 3: river.rule(); break;
                default: river.chart(); break;
            }
        }
        for (int kind = 0; kind < 4; kind++) {
            river.end(0);
            river.sign(0x35343332);
            river.sign(0x31300000);
            river.end(6);
            switch (kind) {
                case 0: river.soonest(); break;
                case 1: river.crossed(); break;
                case 2: river.chart(); break;
                default: river.boats(); break;
            }
        }
    }
}
