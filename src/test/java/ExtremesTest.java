import java.lang.reflect.Method;
import java.lang.reflect.Modifier;
import java.util.Random;

/** No call throws or fails to end, for any arguments in any state; and none changes what it only asks. */
public final class ExtremesTest {
    private static final Check check = new Check("ExtremesTest");
    private static final long[] ODD = {0, 1, 2, 3, 5, 7, 8, 12, 39, 40, 41, 58, 59, 60, 61, 63, 64, 65, 99, 100, 200, 300, 301,
        999, 1000, 1001, 1199, 1200, 1201, 3000, 3001, 4999, 5000, 100000, 1000000000000L, 1000000000001L,
        -1, -2, -59, -64, Integer.MAX_VALUE, Integer.MIN_VALUE, Long.MAX_VALUE, Long.MIN_VALUE, 0x0fffffffffffffffL};

    public static void main(String[] args) throws Exception {
        for (int seed = 0; seed < 60; seed++) {
            calls(seed);
        }
        dearest();
        check.close();
    }

    private static void calls(int seed) throws Exception {
        Random random = new Random(seed);
        Method[] methods = PostRing.class.getDeclaredMethods();
        java.util.Arrays.sort(methods, java.util.Comparator.comparing(Method::toString));
        PostRing ring = new PostRing();
        if (seed % 3 != 0) {
            Check.put(ring, new RandomRing(seed, seed % 3 == 1 ? 9 : 60).text);
            check.due("ring()", ring.ring() > 0, true);
        }
        for (int i = 0; i < 400; i++) {
            Method method = methods[random.nextInt(methods.length)];
            if (Modifier.isPublic(method.getModifiers()) && !method.getName().equals("ring")) {
                call(ring, method, random);
            }
        }
    }

    private static void call(PostRing ring, Method method, Random random) {
        Class<?>[] types = method.getParameterTypes();
        Object[] values = new Object[types.length];
        StringBuilder name = new StringBuilder(method.getName());
        for (int i = 0; i < types.length; i++) {
            long value = random.nextInt(4) == 0 ? random.nextLong() : random.nextBoolean()
                ? ODD[random.nextInt(ODD.length)] : random.nextInt(10);
            values[i] = types[i] == int.class ? (Object) (int) value : (Object) value;
            name.append(' ').append(values[i]);
        }
        try {
            method.invoke(ring, values);
            check.due(name.toString(), 1, 1);
        } catch (ReflectiveOperationException e) {
            check.due(name + " throws " + e.getCause(), 1, 0);
        }
    }

    private static void dearest() {
        PostRing ring = Check.ringOf("stand 60;again 9;guard 0 to 59;boy 17;turn 5;count (going*7+last*3/2-here)*(going<300 or not here=7)"
            + "+going*going/(1+last)-here*here+(last<here)+" + "1+".repeat(15) + "1;");
        check.due("goings", ring.about(2), 0);
        long left = ring.left();
        for (int post = 0; post < 60; post++) {
            int when = ring.when(post);
            check.due("when or left", when == -1, (left >> post & 1) == 1);
            int bribe = ring.bribe(post);
            check.due("bribe ahead of going", bribe <= when || when == -1, true);
        }
        check.due("late", (ring.late(300) & ~((1L << 60) - 1)) == 0, true);
        check.due("begins", (ring.begins(59) & ~((1L << 60) - 1)) == 0, true);
        check.due("chooses", ring.chooses(1L << 59) <= 999, true);
        check.due("it stays", ring.about(2), 0);
    }
}
