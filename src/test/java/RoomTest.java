import com.sun.management.ThreadMXBean;
import java.lang.management.ManagementFactory;
import java.lang.reflect.Method;
import java.lang.reflect.Modifier;
import java.util.Arrays;
import java.util.Comparator;
import java.util.Random;

/** No call throws, whatever it is given in whatever state; and what a run makes stays small. */
public final class RoomTest {
    private static final int[] INTS = {Integer.MIN_VALUE, Integer.MIN_VALUE + 1, -1001, -6, -2, -1, 0, 1, 2, 3, 4, 5, 6, 7, 9, 10, 15, 20, 25,
        30, 35, 59, 60, 61, 99, 100, 127, 128, 999, 9999, 10000, Integer.MAX_VALUE - 1, Integer.MAX_VALUE};
    private static final long MOST_BYTES = 200_000;

    public static void main(String[] args) throws Exception {
        Method[] calls = Arrays.stream(ExemptBeauty.class.getDeclaredMethods())
            .filter(m -> Modifier.isPublic(m.getModifiers()))
            .sorted(Comparator.comparing(Method::getName)).toArray(Method[]::new);
        Due.is("calls", calls.length, 38);
        for (int seed = 0; seed < 600; seed++) {
            anything(calls, new Random(seed), seed);
        }
        made();
        Due.end();
    }

    private static void anything(Method[] calls, Random random, int seed) throws Exception {
        ExemptBeauty x = new ExemptBeauty();
        int begin = 0;
        if (seed % 3 > 0) {
            begin = fullTown(x, random);
        }
        for (int k = begin; k < 512; k++) {
            Method call = calls[random.nextInt(calls.length)];
            Object[] given = new Object[call.getParameterCount()];
            for (int i = 0; i < given.length; i++) {
                Class<?> type = call.getParameterTypes()[i];
                int n = random.nextInt(3) == 0 ? INTS[random.nextInt(INTS.length)] : random.nextInt(7);
                given[i] = type == boolean.class ? (Object) random.nextBoolean() : type == long.class ? (Object) (long) n : (Object) n;
            }
            try {
                call.invoke(x, given);
            } catch (java.lang.reflect.InvocationTargetException e) {
                Due.holds("seed " + seed + ": " + call.getName() + Arrays.toString(given) + " threw " + e.getCause(), false);
                return;
            }
        }
        Due.holds("seed " + seed, true);
    }

    private static int fullTown(ExemptBeauty x, Random random) {
        int calls = 0;
        for (int p = 0; p < 6; p++) {
            x.person(random.nextInt(7), random.nextInt(10), random.nextInt(100));
        }
        String text = Texts.office(random);
        for (int i = 0; i < text.length(); i++) {
            x.feed(text.charAt(i));
            calls++;
        }
        x.office();
        return calls + 7;
    }

    /** The dearest calls, each 512 times: what they make is far below the room of a run. */
    private static void made() {
        ThreadMXBean bean = (ThreadMXBean) ManagementFactory.getThreadMXBean();
        long id = Thread.currentThread().getId();
        for (int which = 0; which < 12; which++) {
            run(which);
            long before = bean.getThreadAllocatedBytes(id);
            run(which);
            long bytes = bean.getThreadAllocatedBytes(id) - before;
            Due.holds("calls " + which + " made " + bytes + " bytes", bytes < MOST_BYTES);
        }
    }

    private static void run(int which) {
        ExemptBeauty x = new ExemptBeauty();
        for (int p = 0; p < 6; p++) {
            x.person(p + 1, p, 30 + p);
        }
        for (int k = 0; k < 6; k++) {
            x.see(k, k, true, 20);
        }
        for (int k = 0; k < 10; k++) {
            x.plan(0, 0);
        }
        for (int k = 0; k < 480; k++) {
            switch (which) {
                case 0: x.line(5); break;
                case 1: x.pairs(15); break;
                case 2: x.when(5, 1); break;
                case 3: x.graces(5, 5, 0); break;
                case 4: x.tastes(0); break;
                case 5: x.image(); x.undo(); break;
                case 6: x.tape(0, 3, 60); break;
                case 7: x.feed("rate 12".charAt(k % 7)); if (k % 7 == 6) { x.office(); } break;
                case 8: x.act(5, 2, k); break;
                case 9: x.office(); break;
                case 10: x.raises(9999); break;
                default: x.ends(1); break;
            }
        }
    }
}
