import java.lang.management.ManagementFactory;
import java.lang.reflect.InvocationTargetException;
import java.lang.reflect.Method;
import java.util.ArrayList;
import java.util.Arrays;
import java.util.Comparator;
import java.util.List;
import java.util.Random;

/** Runs of wild calls: nothing is thrown but what the document says, refusals change nothing, and little is made. */
public final class WildTest {
    private static final int RUNS = 20000;
    /** Of the 512 of an object, the telling of its town and of what there is takes the rest. */
    private static final int CALLS = 150;
    private static final int[] ODD = {-1, -2, 100, 101, 999, 1000, -999, -1000, 255, 256, 65536, Integer.MAX_VALUE,
        Integer.MIN_VALUE, 1 << 30};
    private static final List<String> CHANGING = List.of("town", "comes", "leaves", "mood", "coins", "fact", "chance",
            "kin", "set", "image", "restore", "keep", "row", "put", "copy");

    private WildTest() {
    }

    public static void main(String[] args) throws ReflectiveOperationException {
        Method[] calls = face();
        Due.is("how many calls there are", calls.length, 48);
        for (int seed = 0; seed < RUNS; seed++) {
            run(calls, new Random(seed));
        }
        littleIsMade();
        Due.end("WildTest");
    }

    private static Method[] face() {
        Method[] calls = ThoughtBetterOf.class.getDeclaredMethods();
        List<Method> open = new ArrayList<>();
        for (Method call : calls) {
            if (java.lang.reflect.Modifier.isPublic(call.getModifiers())) {
                open.add(call);
            }
        }
        // the order in which they come is free, the runs must not be
        open.sort(Comparator.comparing(Method::getName));
        return open.toArray(new Method[0]);
    }

    private static int value(Random random) {
        int by = random.nextInt(20);
        if (by == 0) {
            return ODD[random.nextInt(ODD.length)];
        }
        return by == 1 ? random.nextInt() : by < 5 ? random.nextInt(30) - 10 : random.nextInt(by < 10 ? 10 : 4);
    }

    private static void run(Method[] calls, Random random) throws ReflectiveOperationException {
        ThoughtBetterOf x = Towns.of("f0+509;f1-411;t0-120003;p00008-320;p71110-510;p33009+350;");
        for (int i = random.nextInt(CALLS); i > 0; i--) {
            call(calls[random.nextInt(calls.length)], x, random);
        }
        Method last = calls[random.nextInt(calls.length)];
        String before = told(x);
        long answer = call(last, x, random);
        if (answer < 0 || !CHANGING.contains(last.getName())) {
            Due.that(last.getName() + " changed something and answered " + answer, told(x).equals(before));
        }
    }

    /** What a call with wild values answers; -1 if it throws what is due. */
    private static long call(Method call, ThoughtBetterOf x, Random random) throws ReflectiveOperationException {
        Object[] with = new Object[call.getParameterCount()];
        for (int k = 0; k < with.length; k++) {
            with[k] = value(random);
        }
        try {
            return ((Number) call.invoke(x, with)).longValue();
        } catch (InvocationTargetException e) {
            int d = with.length > 0 ? (Integer) with[0] : 0;
            Class<?> due = d < 0 || d > 7 ? IllegalArgumentException.class : IllegalStateException.class;
            Due.that(call.getName() + Arrays.toString(with) + " threw " + e.getCause(),
                    call.getName().equals("element") && e.getCause().getClass() == due);
            return -1;
        }
    }

    /** What there is, as far as it is told without a day: but for what restore() would bring. */
    private static String told(ThoughtBetterOf x) {
        StringBuilder all = new StringBuilder();
        for (int what = 0; what < 8; what++) {
            all.append(x.count(what)).append(' ');
        }
        for (int p = 0; p < x.count(0); p++) {
            for (int what = 0; what < 7; what++) {
                all.append(x.person(p, what)).append(' ');
            }
        }
        for (int f = 0; f < x.count(1); f++) {
            for (int what = 0; what < 4; what++) {
                all.append(x.about(f, what)).append(' ');
            }
        }
        for (int d = 0; d < 8; d++) {
            all.append(x.cost(d)).append(' ').append(x.toss(d)).append(' ');
            if (x.cost(d) == -12) {
                int size = 0;
                while (x.copy(d, size, d, size, 1) == 1) {
                    all.append(x.element(d, size)).append(' ');
                    size++;
                }
            }
        }
        return all.toString();
    }

    /** The room of a run is small: some 600,000 objects, 7.3 million fields and elements. */
    private static void littleIsMade() {
        com.sun.management.ThreadMXBean threads =
                (com.sun.management.ThreadMXBean) ManagementFactory.getThreadMXBean();
        long me = Thread.currentThread().getId();
        String town = "f0+101;f0+201;f1+301;f1-401;f2+501;f3-909;t3+010000;t3+010000;"
                + "p33000-999;p70102+299;p10203+399;p20304+499;p50005+599;p60106+699;p40207+799;p00308+899;";
        ThoughtBetterOf x = Towns.of(town);
        for (int f = 0; f < 6; f++) {
            x.chance(f, 5);
        }
        Towns.row(x, 0, 2, 2, 1, 1, 1, 1, 1, 1, 1);
        Towns.row(x, 1, 0, "p00001+109;".chars().toArray());
        x.keep(2, 1, 5, 5);
        for (int round = 0; round < 2; round++) {
            long before = threads.getThreadAllocatedBytes(me);
            for (int i = 0; i < 6; i++) {
                Due.is("turn(1, 0), the dearest: sworn", x.turn(1, 0), -4);
                x.mean(0);
                x.likely(1, 0);
                x.explained(0, 0);
                x.forged(0);
                x.seeds(20, i, 0);
                x.purse(7);
                x.again(0);
                x.guard(255);
                x.two(1, 2);
                x.bestOpen();
                x.town(1);
                x.toss(2);
                x.keep(3, 1, 5, 5);
                x.image();
                x.restore();
            }
            long made = threads.getThreadAllocatedBytes(me) - before;
            Due.that("96 calls made " + made + " bytes", round == 0 || made < 20_000);
        }
    }
}
