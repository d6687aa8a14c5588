import java.lang.management.ManagementFactory;
import java.lang.reflect.InvocationTargetException;
import java.lang.reflect.Method;
import java.lang.reflect.Modifier;
import java.util.Arrays;
import java.util.Comparator;
import java.util.Random;

/** Rule 7 of LANGUAGE.md: no call ever throws, whatever it is given; and the room: calls make no objects. */
public final class AnyCallTest {
    private static final Check check = new Check();
    private static final int[] EDGES = {0, 1, -1, 2, 3, 4, 5, 6, 9, 11, 12, 19, 20, 21, 23, 24, 25, 29, 30, 31, 32, 33, 40, 41, 43, 44, 63, 64, 99, 100, 299, 300,
        999, 1000, 1200, 1201, 2000, 2001, -2, -3, -4, 1 << 23, 1 << 24, (1 << 24) - 1, 1 << 30, Integer.MIN_VALUE, Integer.MAX_VALUE, Integer.MIN_VALUE + 1};

    private static Method[] calls() {
        Method[] all = Arrays.stream(HeronBook.class.getDeclaredMethods()).filter(m -> Modifier.isPublic(m.getModifiers())).toArray(Method[]::new);
        Arrays.sort(all, Comparator.comparing(Method::getName));
        return all;
    }

    static String fullBook() {
        StringBuilder text = new StringBuilder();
        for (int i = 0; i < 12; i++) {
            text.append("notion ").append((char) ('a' + i)).append(i % 2 == 0 ? " abcdx;" : " bce;");
        }
        for (int i = 0; i < 20; i++) {
            text.append("word ").append((char) ('a' + i)).append(' ').append((char) ('a' + i % 7)).append((char) ('a' + i % 5)).append(';');
        }
        for (int i = 0; i < 24; i++) {
            text.append("place ").append((char) ('a' + i % 12)).append(" bc;");
        }
        for (int i = 0; i < 20; i++) {
            text.append("tie ").append(i).append(' ').append((i * 7 + 3) % 24 == i ? 23 : (i * 7 + 3) % 24).append(" abc;");
        }
        for (int i = 0; i < 6; i++) {
            text.append("hearer ").append((char) ('a' + i)).append(" abc b;");
        }
        return text.toString();
    }

    private static void anyRun(long seed) throws IllegalAccessException {
        Random random = new Random(seed);
        Method[] calls = calls();
        HeronBook x = new HeronBook();
        if (seed % 3 != 0) {
            check.holds("a full book", Check.read(x, fullBook()) == 82);
        }
        for (int i = 0; i < 2000; i++) {
            Method m = calls[random.nextInt(calls.length)];
            if (m.getName().equals("book") && random.nextInt(20) != 0) {
                continue;
            }
            Object[] given = new Object[m.getParameterCount()];
            for (int k = 0; k < given.length; k++) {
                given[k] = random.nextInt(3) > 0 ? random.nextInt(4) : random.nextInt(8) == 0 ? random.nextInt() : EDGES[random.nextInt(EDGES.length)];
            }
            try {
                m.invoke(x, given);
                check.due("", 0, 0);
            } catch (InvocationTargetException e) {
                check.due(m.getName() + Arrays.toString(given) + " threw " + e.getCause(), 1, 0);
            }
        }
    }

    /** The dearest calls on a full book, many times: they make nothing. */
    private static void makesNothing() {
        HeronBook x = Check.of(fullBook());
        com.sun.management.ThreadMXBean bean = (com.sun.management.ThreadMXBean) ManagementFactory.getThreadMXBean();
        long id = Thread.currentThread().getId();
        dearCalls(x);
        bean.getThreadAllocatedBytes(id);
        long before = bean.getThreadAllocatedBytes(id);
        for (int i = 0; i < 20; i++) {
            dearCalls(x);
        }
        long made = bean.getThreadAllocatedBytes(id) - before;
        check.holds("bytes made by 20 rounds of calls: " + made, made < 4000);
    }

    private static void dearCalls(HeronBook x) {
        for (int p = 0; p < 24; p++) {
            x.choose(p, 2, p % 20, (p + 1) % 20, -1);
            x.heard(0, p % 6, p, p % 2);
            x.moves(p % 20, 5, p);
            x.note(p, 2);
            x.on(0, 1, p);
            x.bound(p);
            x.agree(p);
        }
        x.exchange();
        x.best(15);
        x.best(0xf000);
        x.mend(5);
        x.until(500);
        x.turned(5);
        x.next(1);
        x.fit(1, 0);
        x.surely(1, 1, 0);
        x.keep(1);
        x.take(1);
        x.nearer(1, 1, 1);
        x.price(1);
        x.swap(1);
        x.clashes();
    }

    public static void main(String[] args) throws IllegalAccessException {
        for (int seed = 0; seed < 150; seed++) {
            anyRun(seed);
        }
        makesNothing();
        check.close("AnyCallTest");
    }
}
