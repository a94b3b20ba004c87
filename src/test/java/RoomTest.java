import java.lang.management.ManagementFactory;
import java.lang.reflect.Array;
import java.lang.reflect.Field;
import java.lang.reflect.Modifier;
import java.util.ArrayDeque;
import java.util.Collections;
import java.util.Deque;
import java.util.IdentityHashMap;
import java.util.Set;

/** The room that a run takes: what an object holds, and that no call makes anything. */
public final class RoomTest {
    private static final Check check = new Check("RoomTest");
    private static final String DEAREST = "stand 60;again 9;guard 0 to 59;boy 17;turn 5;left 2;rhyme a b c;count going*7+last*3/2-here;"
        + "person a worth 1;person b worth 2;drawn 5 weight 6;drawn 999 weight 99;";
    // Far above what the measure itself makes, far below one row of 60 numbers a call.
    private static final long MOST_BYTES = 20000;

    public static void main(String[] args) throws Exception {
        PostRing ring = new PostRing();
        long[] fresh = held(ring);
        check.due("some hundred objects and arrays: " + fresh[0], fresh[0] <= 120, true);
        check.due("some ten thousand fields and elements: " + fresh[1], fresh[1] <= 12000, true);
        calls(Check.ringOf(DEAREST));
        Check.put(ring, DEAREST);
        ring.ring();
        com.sun.management.ThreadMXBean measure = (com.sun.management.ThreadMXBean) ManagementFactory.getThreadMXBean();
        long self = Thread.currentThread().getId();
        long before = measure.getThreadAllocatedBytes(self);
        int made = calls(ring);
        long taken = measure.getThreadAllocatedBytes(self) - before;
        check.due("no more than 512 calls: " + made, made <= 480, true);
        check.due("no call makes an object: " + taken + " bytes", taken < MOST_BYTES, true);
        long[] used = held(ring);
        check.due("objects held", used[0], fresh[0]);
        check.due("elements held", used[1], fresh[1]);
        check.close();
    }

    private static int calls(PostRing ring) {
        int made = 0;
        for (int i = 0; i < 10; i++) {
            ring.feed(0x7374616e, 0x6420363b, 0x20202020, 0x20202020, 0x20202020);
            ring.end(8);
            ring.go(20);
            ring.image(i % 3);
            ring.left();
            ring.when(i);
            ring.late(i * 30);
            ring.bribe(i);
            ring.stay(1 + i);
            ring.meet();
            ring.begins(i);
            ring.chooses(1L << i);
            ring.order(i);
            ring.keep(i);
            ring.judge();
            ring.far(1000000000000L, 1000, 999999999999L);
            ring.at(1000000000000L, 999, 999999999999L);
            ring.size(1000, 3, i);
            ring.keeps(60, 1L << i);
            ring.first(60, 3L << i);
            ring.number(60);
            ring.guess(60, 1);
            ring.never(60, 3000);
            ring.often(60, 3000, 0);
            ring.ever(60);
            ring.chance(60, i, 0);
            ring.choice(60, 1);
            ring.expected(60, 1, 1);
            ring.sight(60, 1 + i, i);
            ring.later(1);
            ring.untell(i);
            ring.fits(0, i);
            ring.ask(60, 1, i);
            ring.post(i, 1);
            ring.went(i);
            ring.fault(0);
            ring.about(i);
            ring.back(i % 3);
            made += 38;
        }
        ring.feed(0x24242424, 0, 0, 0, 0);
        ring.ring();
        return made + 2;
    }

    /** How many objects and arrays hang on one, and how many fields and elements these have. */
    private static long[] held(Object root) throws IllegalAccessException {
        Set<Object> seen = Collections.newSetFromMap(new IdentityHashMap<>());
        Deque<Object> open = new ArrayDeque<>();
        long parts = 0;
        seen.add(root);
        open.add(root);
        while (!open.isEmpty()) {
            Object one = open.pop();
            if (one.getClass().isArray()) {
                parts += Array.getLength(one);
                for (int i = 0; !one.getClass().getComponentType().isPrimitive() && i < Array.getLength(one); i++) {
                    follow(Array.get(one, i), seen, open);
                }
                continue;
            }
            for (Field field : one.getClass().getDeclaredFields()) {
                if (!Modifier.isStatic(field.getModifiers())) {
                    parts++;
                    field.setAccessible(true);
                    if (!field.getType().isPrimitive()) {
                        follow(field.get(one), seen, open);
                    }
                }
            }
        }
        return new long[] {seen.size(), parts};
    }

    private static void follow(Object part, Set<Object> seen, Deque<Object> open) {
        if (part != null && seen.add(part)) {
            open.add(part);
        }
    }
}
