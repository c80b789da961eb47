import com.sun.management.ThreadMXBean;
import java.lang.management.ManagementFactory;
import java.lang.reflect.InvocationTargetException;
import java.lang.reflect.Method;
import java.lang.reflect.Modifier;
import java.util.Arrays;
import java.util.Comparator;
import java.util.List;
import java.util.NoSuchElementException;
import java.util.Random;

/** No call throws by itself whatever it is given, and calls take (almost) no room. */
public final class RoomTest {
    private static final int CALLS = 512;
    private static final int[] EDGES = {0, 0, 1, 1, 2, 3, 4, 5, 6, 7, 8, 9, 10, 20, 23, 24, 25, 40, 99, 100, 365, 400,
        401, 500, 999, 1000, 20000, 30000, 36499, 36500, 60000, 99999, -1, -2, -9, -60000, Integer.MAX_VALUE,
        Integer.MIN_VALUE};

    public static void main(String[] args) throws IllegalAccessException {
        wildCalls();
        room();
        Checks.end();
    }

    private static void wildCalls() throws IllegalAccessException {
        Method[] face = Arrays.stream(GlassThreads.class.getDeclaredMethods())
                .filter(m -> Modifier.isPublic(m.getModifiers()))
                .sorted(Comparator.comparing(Method::getName)).toArray(Method[]::new);
        Random chance = new Random(7);
        for (int i = 0; i < 400; i++) {
            GlassThreads x = new GlassThreads();
            for (int call = 0; call < CALLS; call++) {
                if (chance.nextInt(20) == 0) {
                    tellSomething(x, chance);
                } else {
                    wildCall(x, face[chance.nextInt(face.length)], chance);
                }
            }
        }
    }

    private static void tellSomething(GlassThreads x, Random chance) {
        x.law(0);
        if (chance.nextInt(3) == 0) {
            Checks.law(x, "run length*colour-age; splice nth/size; plug not size<50; noise (age);");
        } else {
            Checks.thread(x, "plug 50; run 9; splice; run 1; amp 100 200; run 30; plug 20; run 9999;", chance.nextInt(100));
        }
    }

    private static void wildCall(GlassThreads x, Method m, Random chance) throws IllegalAccessException {
        Object[] given = new Object[m.getParameterCount()];
        for (int i = 0; i < given.length; i++) {
            boolean small = chance.nextInt(3) > 0;
            int number = small ? chance.nextInt(4) : EDGES[chance.nextInt(EDGES.length)];
            given[i] = m.getParameterTypes()[i] == boolean.class ? (Object) (number % 2 == 0) : (Object) number;
        }
        Class<?> thrown = null;
        try {
            m.invoke(x, given);
        } catch (InvocationTargetException e) {
            thrown = e.getCause().getClass();
        }
        boolean told = thrown == null || List.of(m.getExceptionTypes()).contains(thrown);
        boolean fine = told && (thrown == null || thrown == NoSuchElementException.class
                || thrown == IllegalArgumentException.class);
        Checks.is(m.getName() + Arrays.toString(given) + " threw " + thrown, true, fine);
    }

    /** Some 5,000 elements are made with the object; the dearest calls may make none at all. */
    private static void room() {
        ThreadMXBean threads = (ThreadMXBean) ManagementFactory.getThreadMXBean();
        GlassThreads warm = new GlassThreads();
        dearCalls(warm);
        long before = threads.getCurrentThreadAllocatedBytes();
        GlassThreads x = new GlassThreads();
        long made = threads.getCurrentThreadAllocatedBytes();
        dearCalls(x);
        long after = threads.getCurrentThreadAllocatedBytes();
        Checks.is("an object takes " + (made - before) + " bytes", true, made - before < 60000);
        Checks.is("512 calls take " + (after - made) + " bytes", true, after - made < 20000);
    }

    private static void dearCalls(GlassThreads x) {
        feedRuns(x);
        x.thread(160, 0);
        for (int i = 0; i < 10; i++) {
            x.cable(i % 4, (i + 1 + i / 4) % 4, 0, 8);
        }
        for (int i = 0; i < 6; i++) {
            x.task(i % 4, (i + 1) % 4);
        }
        x.look(0);
        for (int i = 0; i < 8; i++) {
            x.suspect(i, 50);
        }
        x.echo(0, 0, false, 0, 0);
        x.seen(false);
        x.seen(true);
        for (int i = 0; i < 30; i++) {
            feedRuns(x);
            x.law(0);
            x.lamps(0, 4, 0, 0, 0, 0, 0, 0);
            x.readBack(0);
            x.pair(0, 2);
            x.deal();
            x.worst(2);
            x.tired(0, 0, 0, 0);
            x.echo(0, 0, true, 0, 0);
        }
    }

    private static void feedRuns(GlassThreads x) {
        for (int i = 0; i < 8; i++) {
            // "run 9999;" and blanks
            x.feed(0x72756E20, 0x39393939, 0x3B202020, 0x20202020, 0x20202020);
        }
    }
}
