import java.lang.management.ManagementFactory;
import java.lang.reflect.Array;
import java.lang.reflect.Field;
import java.lang.reflect.Modifier;
import java.util.ArrayDeque;
import java.util.Deque;
import java.util.IdentityHashMap;
import java.util.Map;

/**
 * All calls of a run live in one room of some 600,000 objects and arrays, 7.3 million fields and elements in all: a new
 * object takes little of it, and what is called the most makes nothing.
 */
public final class RoomOfRuns extends Asking {
    static final int MOST_OBJECTS = 200;
    static final int MOST_ELEMENTS = 60000;
    static final int CALLS = 400;
    /** What the counting itself may make. */
    static final long SLACK = 16384;
    static final com.sun.management.ThreadMXBean BEAN =
        ManagementFactory.getThreadMXBean() instanceof com.sun.management.ThreadMXBean bean ? bean : null;

    public static void main(String[] args) throws Exception {
        newObject();
        queries();
        deeds();
        texts();
        end();
    }

    static void atMost(String what, long got, long most) {
        due(0, what + ": " + got + ", at most " + most, got <= most ? 1 : 0, 1);
    }

    /** All that can be come to from a new object, arrays by their elements. */
    static void newObject() throws Exception {
        Map<Object, Object> seen = new IdentityHashMap<>();
        Deque<Object> open = new ArrayDeque<>();
        TwinSpan x = with("field 6 6;pair 0 1;may:hop<9;costs:hop;");
        x.image(0);
        x.image(1);
        open.add(x);
        seen.put(x, x);
        long elements = 0;
        while (!open.isEmpty()) {
            Object at = open.poll();
            if (at.getClass().isArray()) {
                elements += Array.getLength(at);
                boolean plain = at.getClass().getComponentType().isPrimitive();
                for (int i = 0; !plain && i < Array.getLength(at); i++) {
                    meet(Array.get(at, i), seen, open);
                }
                continue;
            }
            for (Field f : at.getClass().getDeclaredFields()) {
                if (!Modifier.isStatic(f.getModifiers())) {
                    elements++;
                    f.setAccessible(true);
                    if (!f.getType().isPrimitive()) {
                        meet(f.get(at), seen, open);
                    }
                }
            }
        }
        atMost("objects of a new one", seen.size(), MOST_OBJECTS);
        atMost("elements of a new one", elements, MOST_ELEMENTS);
    }

    static void meet(Object other, Map<Object, Object> seen, Deque<Object> open) {
        if (other != null && seen.put(other, other) == null) {
            open.add(other);
        }
    }

    /** How many bytes the calls make, the first one aside, by which the machine loads what it needs. */
    static long made(TwinSpan x, Calls calls) {
        if (BEAN == null || !BEAN.isThreadAllocatedMemorySupported()) {
            return 0;
        }
        BEAN.setThreadAllocatedMemoryEnabled(true);
        calls.on(x);
        long id = Thread.currentThread().getId();
        long before = BEAN.getThreadAllocatedBytes(id);
        for (int i = 0; i < CALLS; i++) {
            calls.on(x);
        }
        return BEAN.getThreadAllocatedBytes(id) - before;
    }

    static void makesNothing(String name, TwinSpan x, Calls calls) {
        atMost("bytes by " + CALLS + " calls of " + name, made(x, calls), SLACK);
    }

    static TwinSpan wide() {
        TwinSpan x = with("field 6 6;pair 0 9 errand 35 20;pair 7 7;pair 30 30;may:hop<9 and not height>(8);costs:hop+row*column;");
        tray(x, 0, 1, 11, 20, 31, 0);
        tray(x, 1, 3, 1, 1012, 2003, 12, 1012);
        tray(x, 2, 2, new long[40]);
        x.image(0);
        return x;
    }

    static void queries() {
        makesNothing("pair, cell, count", wide(), x -> x.pair(0, 2 + 0 * x.cell(3, 1) + 0 * x.count(4)));
        makesNothing("why, by", wide(), x -> x.by(0, 1, x.why(0, 0, 1) & 3, 3));
        makesNothing("soonest", wide(), x -> x.soonest(0, 35, -1));
        makesNothing("way", wide(), x -> x.way(0, 35, -1, 3));
        makesNothing("cheapest", wide(), x -> x.cheapest(0, 35, -1));
        makesNothing("cheapWay", wide(), x -> x.cheapWay(0, 35, -1, 3));
        makesNothing("rows", wide(), x -> x.rows(0, -1, -1, 15));
        makesNothing("needed", wide(), x -> x.needed(0, 35, -1));
        makesNothing("errands", wide(), x -> x.errands(0));
        makesNothing("errandWay", wide(), x -> x.errandWay(0, 2));
        makesNothing("reach, stands, farthest", wide(), x -> x.farthest((int) (0 * x.reach(1, 0)), 0 * x.stands(0)));
        makesNothing("round, spans", wide(), x -> x.spans((int) (0 * x.round(0, 3)), 3));
        makesNothing("forces, best", wide(), x -> x.best(0 * x.forces(1, 14), 14));
        makesNothing("power", wide(), x -> x.power(0));
        makesNothing("tried, many", wide(), x -> x.many(0, (int) (0 * x.tried(0, 0))));
        makesNothing("attempt, moods", wide(), x -> x.attempt(0, 0 * x.moods(0, 0)));
        makesNothing("chance", wide(), x -> x.chance(0, 1, 9, 5, 1));
        makesNothing("likeliest", wide(), x -> x.likeliest(0, 0, 5));
        makesNothing("judge", wide(), x -> x.judge(1, 3));
    }

    static void deeds() {
        makesNothing("lead", wide(), x -> x.lead(0, 0, x.why(0, 0, 1) == 0 ? 1 : 3));
        makesNothing("wall", wide(), x -> x.wall(20));
        makesNothing("put", wide(), x -> x.put(0, 0, x.pair(0, 1) == 9 ? 8 : 9));
        makesNothing("mood", wide(), x -> x.mood(0, 5));
        makesNothing("undo", wide(), x -> x.undo(0 * x.wall(20) + 1));
        makesNothing("perform", wide(), x -> x.perform(1));
        makesNothing("day", wide(), x -> x.day(x.count(4) + 77, 40));
        makesNothing("numbers, write", wide(), x -> x.write(3, x.numbers(3, 2, 40), 999));
        makesNothing("lists", wide(), x -> x.lists(2, 0, 35, -1));
        makesNothing("image", wide(), x -> x.image(0));
        makesNothing("restore", wide(), x -> x.restore(0));
    }

    /** A text makes a plan, and its laws: no more than a few bytes for each of its own. */
    static void texts() {
        StringBuilder law = new StringBuilder("field 6 6;pair 0 1;costs:1");
        while (law.length() < 890) {
            law.append("+1");
        }
        law.append(";");
        int[] words = new int[225];
        for (int i = 0; i < 900; i++) {
            words[i / 4] = words[i / 4] << 8 | (i < law.length() ? law.charAt(i) : ' ');
        }
        int length = law.length();
        long bytes = made(new TwinSpan(), x -> {
            for (int i = 0; i < 225; i += 5) {
                x.feed(words[i], words[i + 1], words[i + 2], words[i + 3], words[i + 4]);
            }
            due(3, "a long law", x.field(length), 3);
        });
        atMost("bytes by " + CALLS + " texts", bytes, CALLS * 10000L);
    }
}
