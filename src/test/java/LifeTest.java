import java.lang.reflect.InvocationTargetException;
import java.lang.reflect.Method;
import java.nio.charset.StandardCharsets;
import java.util.Arrays;
import java.util.HashMap;
import java.util.Map;
import java.util.Random;
import java.util.TreeMap;

/**
 * Promises 1 to 39 together: long runs of calls of every kind by chance (always the same), most of them
 * right and some wrong, each asked of the class and of Whole; what earlier calls left must be the same too.
 */
public final class LifeTest {
    private static final int LIVES = 300;
    private static final int CALLS = 512;
    private static final int[] EDGES = {-1, 0, 1, 2, 3, 4, 5, 6, 7, 8, 9, 10, 11, 23, 24, 25, 39, 40, 99, 100, 101, 127, 128,
        -128, -129, 500, 501, 999, 1000, 20000, 20001, 30000, 30001, 32767, 32768, -32768, -32769, 36499, 36500,
        -60000, -60001, 99999, 100000, -2, -9, Integer.MAX_VALUE, Integer.MIN_VALUE};
    /** Of each call what its arguments are, a letter each: see usual(). */
    private static final Map<String, String> CALLS_TOLD = new TreeMap<>(Map.ofEntries(
            Map.entry("fault", ""), Map.entry("part", "tPw"), Map.entry("loss", "tpca"), Map.entry("evenings", "f"),
            Map.entry("event", "xrrqd"), Map.entry("back", "e"), Map.entry("level", "tpclbdk"),
            Map.entry("margin", "tclldk"), Map.entry("tired", "tcln"), Map.entry("dead", "f"),
            Map.entry("echo", "tcbdk"), Map.entry("echoed", "iw"), Map.entry("look", "t"), Map.entry("suspect", "ps"),
            Map.entry("seen", "b"), Map.entry("readBack", "c"), Map.entry("found", "w"), Map.entry("dig", "Dhjw"),
            Map.entry("both", "DDGhjw"), Map.entry("lamps", "tmnllnnd"), Map.entry("steps", "c"),
            Map.entry("cable", "ootv"), Map.entry("task", "oo"), Map.entry("way", "oo"), Map.entry("pair", "oo"),
            Map.entry("along", "P"), Map.entry("deal", ""), Map.entry("dealt", "i"), Map.entry("lost", "B"),
            Map.entry("worst", "M"), Map.entry("sheet", "wz"), Map.entry("write", "iIu"), Map.entry("copy", "iIiIf"),
            Map.entry("rowOf", "iff"), Map.entry("count", "c"), Map.entry("thread", "Iy"), Map.entry("law", "I")));
    private static final Map<String, Method> OF_CLASS = methods(GlassThreads.class);
    private static final Map<String, Method> OF_WHOLE = methods(Whole.class);
    private static final String[] NAMES = CALLS_TOLD.keySet().toArray(new String[0]);

    private static final Random CHANCE = new Random(10);
    private static GlassThreads x;
    private static Whole whole;
    private static int left;
    private static int answered = 0;

    public static void main(String[] args) throws IllegalAccessException {
        Checks.is("every call is asked", OF_CLASS.size(), NAMES.length + 1);
        for (int i = 0; i < LIVES; i++) {
            live(i);
        }
        Checks.is("most calls are right ones: " + answered, true, answered > LIVES * CALLS / 2);
        Checks.end();
    }

    private static Map<String, Method> methods(Class<?> c) {
        Map<String, Method> all = new HashMap<>();
        for (Method m : c.getDeclaredMethods()) {
            boolean asked = CALLS_TOLD.containsKey(m.getName()) || m.getName().equals("feed");
            if (asked && !java.lang.reflect.Modifier.isPrivate(m.getModifiers())) {
                all.put(m.getName(), m);
            }
        }
        return all;
    }

    private static int below(int n) {
        return CHANCE.nextInt(n);
    }

    private static void live(int number) throws IllegalAccessException {
        x = new GlassThreads();
        whole = new Whole();
        left = CALLS;
        int texts = number % 5 == 0 ? 0 : 1 + below(8);
        for (int i = 0; i < texts; i++) {
            tell("thread", thread(), below(60));
        }
        // so much of each kind at first: else the calls that look at it find nothing
        String[] first = {"cable", "task", "event", "sheet"};
        for (String name : first) {
            for (int i = below(name.equals("task") ? 4 : 16); i > 0; i--) {
                call(name);
            }
        }
        while (left > 30) {
            switch (below(160)) {
                case 0: tell("thread", spoiled(thread()), below(60)); break;
                case 1: tell("law", law()); break;
                case 2: tell("law", spoiled(law())); break;
                case 3: readBack(); break;
                default: call(NAMES[below(NAMES.length)]);
            }
        }
    }

    // ---- calls ----

    private static void call(String name) throws IllegalAccessException {
        String letters = CALLS_TOLD.get(name);
        Object[] given = new Object[letters.length()];
        for (int i = 0; i < given.length; i++) {
            int number = below(40) == 0 ? EDGES[below(EDGES.length)] : usual(letters.charAt(i));
            given[i] = letters.charAt(i) == 'b' ? (Object) (below(2) == 0) : (Object) number;
        }
        ask(name, given);
    }

    private static void ask(String name, Object... given) throws IllegalAccessException {
        Object due = answer(OF_WHOLE.get(name), whole, given);
        Object got = answer(OF_CLASS.get(name), x, given);
        String what = name + Arrays.toString(given) + " answered " + got + ", due is " + due;
        Checks.is(what, true, String.valueOf(due).equals(String.valueOf(got)));
        answered += due instanceof Class ? 0 : 1;
        left--;
    }

    private static Object answer(Method m, Object of, Object[] given) throws IllegalAccessException {
        try {
            return m.invoke(of, given);
        } catch (InvocationTargetException e) {
            return e.getCause().getClass();
        }
    }

    private static int usual(char letter) {
        switch (letter) {
            case 'a': case 'y': return below(100);
            case 'c': return below(8);
            case 'd': return below(4) * 6000 + below(2);
            case 'e': return below(Math.max(1, x.count(2)));
            case 'f': return below(5);
            case 'h': return below(30);
            case 'i': return below(6);
            case 'j': return 30 + below(30);
            case 'k': return below(x.count(0) + 1);
            case 'l': return below(5000) - 3000;
            case 'm': case 'v': return 1 + below(4);
            case 'n': return -500 - below(3000);
            case 'o': return below(6);
            case 'p': return below(6);
            case 'q': return below(3) == 0 ? 0 : 1 + below(60);
            case 'r': return below(3);
            case 's': return 30 + below(30);
            case 't': return below(Math.max(1, x.count(1)));
            case 'u': return below(60) == 0 ? 40000 : below(60);
            case 'w': return below(3);
            case 'x': return below(4);
            case 'z': return below(26) - 1;
            case 'B': return below(1024);
            case 'D': return 40000 + below(1000);
            case 'G': return 78000 + below(4000);
            case 'I': return below(24);
            case 'M': return 1 + below(2);
            default: return below(7) - 1;
        }
    }

    // ---- texts ----

    private static String pick(String... some) {
        return some[below(some.length)];
    }

    private static String thread() {
        StringBuilder text = new StringBuilder();
        for (int i = 3 + below(7); i > 0; i--) {
            switch (below(10)) {
                case 0: case 1: text.append("plug ").append(below(40)); break;
                case 2: case 3: text.append("splice"); break;
                case 4: text.append("amp ").append(below(900)).append(' ').append(below(900)); break;
                default: text.append("run ").append(1 + below(40));
            }
            text.append(pick(";", "; ", ";\n"));
        }
        return text.toString();
    }

    private static String law() {
        String text = pick("", "run length * 3 - age;", "run 40 - length * 2 < colour;", "run length / nth + 7;")
                + pick("", "splice 35 + nth * colour;", "splice not colour * 60;", "splice 0;")
                + pick("", "plug size * 5 + (age < 30) * 40;", "plug 20 or 3; plug 90 / (size - 10);")
                + pick("", "noise size / 10;", "noise 300 - age and colour = 2 or nth;");
        return text + (below(4) == 0 ? "run 6*nth;" : "");
    }

    private static String spoiled(String text) {
        StringBuilder spoiled = new StringBuilder(text);
        if (spoiled.length() > 0) {
            int at = below(spoiled.length());
            String other = pick("", ";", "7", "x", "(", ")", " ", "not ", "\u00e9", "123456", "=");
            spoiled.replace(at, Math.min(text.length(), at + below(3)), other);
        }
        return spoiled.toString();
    }

    /** Puts a text behind what the tape holds: most often the tape is emptied ahead of it. */
    private static void tell(String name, String text, Object... year) throws IllegalAccessException {
        if (below(8) > 0) {
            ask("law", x.count(7) + below(2));
        }
        byte[] bytes = text.getBytes(StandardCharsets.ISO_8859_1);
        int held = x.count(7);
        for (int at = 0; at < bytes.length; at += 20) {
            Object[] words = {0, 0, 0, 0, 0};
            for (int i = 0; i < 20; i++) {
                int b = at + i < bytes.length ? bytes[at + i] & 255 : ' ';
                words[i / 4] = (Integer) words[i / 4] | b << (24 - 8 * (i % 4));
            }
            ask("feed", words);
        }
        int n = held + bytes.length - (below(20) == 0 ? 1 : 0);
        ask(name, year.length == 0 ? new Object[] {n} : new Object[] {n, year[0]});
        ask("fault");
    }

    /** Tells the rows of a thread as it is, and reads them back. */
    private static void readBack() throws IllegalAccessException {
        int thread = usual('t');
        int day = usual('d');
        int evening = usual('k');
        ask("look", thread);
        for (int i = below(5); i > 0; i--) {
            call("suspect");
        }
        for (int i = 1 + below(2); i > 0; i--) {
            boolean end = below(2) == 0;
            ask("echo", thread, 0, end, day, evening);
            ask("seen", end);
        }
        ask("readBack", 0);
        for (int what = 0; what < 3; what++) {
            ask("found", what);
        }
    }
}
