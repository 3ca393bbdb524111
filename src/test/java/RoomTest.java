import java.lang.management.ManagementFactory;
import java.lang.reflect.Array;
import java.lang.reflect.Field;
import java.lang.reflect.InvocationTargetException;
import java.lang.reflect.Method;
import java.lang.reflect.Modifier;
import java.util.ArrayDeque;
import java.util.ArrayList;
import java.util.Arrays;
import java.util.Comparator;
import java.util.Deque;
import java.util.IdentityHashMap;
import java.util.List;
import java.util.Map;
import java.util.Random;

/** For any arguments in any state no call throws; the dearest calls make no objects; how large a new one is. */
public final class RoomTest {
    private static final Check CHECK = new Check("RoomTest");
    private static final long[] EDGES = {Long.MIN_VALUE, Long.MAX_VALUE, Integer.MIN_VALUE, Integer.MAX_VALUE,
        Integer.MIN_VALUE + 1, Integer.MAX_VALUE - 1, -2, -1, 0, 1, 2, 3, 4, 5, 6, 7, 8, 9, 10, 15, 16, 20, 25, 26,
        30, 31, 59, 60, 61, 99, 100, 101, 119, 127, 128, 990, 991, 999, 1000, 9999, 10000, 1 << 16, 1 << 30};

    public static void main(String[] args) throws IllegalAccessException {
        List<Method> calls = new ArrayList<>();
        for (Method m : LittleLeft.class.getMethods()) {
            if (m.getDeclaringClass() == LittleLeft.class) {
                calls.add(m);
            }
        }
        calls.sort(Comparator.comparing(Method::getName));
        CHECK.due("calls", calls.size(), 36);
        Random random = new Random(1);
        for (int run = 0; run < 400; run++) {
            anyCalls(calls, random);
        }
        dearest();
        made(new LittleLeft());
        CHECK.end();
    }

    private static void anyCalls(List<Method> calls, Random random) throws IllegalAccessException {
        LittleLeft x = new LittleLeft();
        for (int p = random.nextInt(7); p > 0; p--) {
            x.taker(random.nextInt(7), random.nextInt(10), 1 + random.nextInt(60));
        }
        Check.rule(x, "want 5 d<3|f>1;pay 3 p<9;least 6;full " + random.nextInt(30));
        for (int i = 0; i < 400; i++) {
            Method m = calls.get(random.nextInt(calls.size()));
            Class<?>[] types = m.getParameterTypes();
            Object[] with = new Object[types.length];
            StringBuilder told = new StringBuilder(m.getName());
            for (int k = 0; k < with.length; k++) {
                long n = random.nextInt(3) == 0 ? random.nextInt(7) : EDGES[random.nextInt(EDGES.length)];
                with[k] = types[k] == int.class ? (Object) (int) n : (Object) n;
                told.append(' ').append(with[k]);
            }
            boolean threw = false;
            try {
                m.invoke(x, with);
            } catch (InvocationTargetException e) {
                threw = true;
                told.append(" threw ").append(e.getCause());
            }
            CHECK.due(told.toString(), threw ? 1 : 0, 0);
        }
    }

    /** What a new object is made of, as README.md tells it. */
    private static void made(LittleLeft x) throws IllegalAccessException {
        Map<Object, Boolean> found = new IdentityHashMap<>();
        Deque<Object> next = new ArrayDeque<>();
        next.add(x);
        int items = 0;
        while (!next.isEmpty()) {
            Object one = next.remove();
            if (found.put(one, true) == null) {
                items += one.getClass().isArray() ? elements(one, next) : fields(one, next);
            }
        }
        CHECK.due("objects and arrays of a new one", found.size(), 104);
        CHECK.due("fields and elements of a new one", items, 2036);
    }

    private static int elements(Object row, Deque<Object> next) {
        if (row instanceof Object[] objects) {
            next.addAll(Arrays.asList(objects));
        }
        return Array.getLength(row);
    }

    private static int fields(Object one, Deque<Object> next) throws IllegalAccessException {
        int fields = 0;
        for (Field f : one.getClass().getDeclaredFields()) {
            if (!Modifier.isStatic(f.getModifiers())) {
                fields++;
                f.setAccessible(true);
                if (!f.getType().isPrimitive()) {
                    next.add(f.get(one));
                }
            }
        }
        return fields;
    }

    private static void dearest() {
        LittleLeft x = Check.kitchen("want 5 d<3|f>1;pay 3 (p<9&!g=3);least 6;full 15", 100, Check.a(0, 1, 10),
            Check.a(1, 2, 20), Check.a(3, 3, 30), Check.a(4, 4, 40), Check.a(6, 5, 50));
        ask(x);
        long before = made();
        for (int i = 0; i < 1000; i++) {
            ask(x);
        }
        // What the reading itself makes is far less than one small row a call.
        CHECK.due("bytes made by 11,000 calls are few", made() - before < 16_000 ? 1 : 0, 1);
    }

    private static long made() {
        com.sun.management.ThreadMXBean beans = (com.sun.management.ThreadMXBean) ManagementFactory.getThreadMXBean();
        return beans.getThreadAllocatedBytes(Thread.currentThread().getId());
    }

    private static void ask(LittleLeft x) {
        x.order(-1);
        x.full(10, 0);
        x.least(10, 0);
        x.odds(0, 30, 0);
        x.few(1, 0);
        x.pitied(60);
        x.mean(60, 0);
        x.looked();
        x.act(4, 2, 7);
        x.feed('w');
        x.rule();
    }
}
