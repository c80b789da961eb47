import java.io.IOException;
import java.lang.reflect.Constructor;
import java.lang.reflect.Executable;
import java.lang.reflect.Field;
import java.lang.reflect.Member;
import java.lang.reflect.Method;
import java.lang.reflect.Modifier;
import java.nio.file.Files;
import java.nio.file.Path;
import java.util.Arrays;
import java.util.List;
import java.util.Set;
import java.util.TreeSet;
import java.util.regex.Matcher;
import java.util.regex.Pattern;

/** The class's face as the document tells it, and what of LANGUAGE.md a look from outside can tell. */
public final class FaceTest {
    private static final String[] FACE = {
        "int feed(int, int, int, int, int)",
        "int thread(int, int) throws IllegalArgumentException",
        "int law(int) throws IllegalArgumentException",
        "int fault()",
        "int part(int, int, int) throws NoSuchElementException",
        "int loss(int, int, int, int) throws NoSuchElementException, IllegalArgumentException",
        "int evenings(int) throws IllegalArgumentException",
        "int event(int, int, int, int, int) throws NoSuchElementException",
        "boolean back(int) throws NoSuchElementException",
        "int level(int, int, int, int, boolean, int, int) throws NoSuchElementException, IllegalArgumentException",
        "int margin(int, int, int, int, int, int) throws NoSuchElementException, IllegalArgumentException",
        "int tired(int, int, int, int) throws NoSuchElementException, IllegalArgumentException",
        "int dead(int) throws IllegalArgumentException",
        "int echo(int, int, boolean, int, int) throws NoSuchElementException, IllegalArgumentException",
        "int echoed(int, int) throws NoSuchElementException",
        "void look(int) throws NoSuchElementException",
        "int suspect(int, int) throws NoSuchElementException",
        "boolean seen(boolean) throws NoSuchElementException",
        "int readBack(int) throws NoSuchElementException",
        "int found(int) throws NoSuchElementException",
        "int dig(int, int, int, int) throws IllegalArgumentException, NoSuchElementException",
        "int both(int, int, int, int, int, int) throws IllegalArgumentException, NoSuchElementException",
        "int lamps(int, int, int, int, int, int, int, int) throws NoSuchElementException, IllegalArgumentException",
        "int steps(int) throws NoSuchElementException",
        "int cable(int, int, int, int) throws NoSuchElementException",
        "int task(int, int) throws NoSuchElementException",
        "int way(int, int) throws NoSuchElementException",
        "int pair(int, int) throws NoSuchElementException",
        "int along(int) throws NoSuchElementException",
        "int deal()",
        "int dealt(int) throws NoSuchElementException",
        "int lost(int)",
        "int worst(int) throws IllegalArgumentException",
        "int sheet(int, int)",
        "int write(int, int, int) throws NoSuchElementException",
        "int copy(int, int, int, int, int) throws NoSuchElementException",
        "int rowOf(int, int, int) throws NoSuchElementException, IllegalArgumentException",
        "int count(int) throws NoSuchElementException",
    };
    private static final String SOURCE = "src/main/java/GlassThreads.java";
    private static final int MOST_LINES = 60;

    public static void main(String[] args) throws IOException {
        face();
        members();
        classes();
        String source = Files.readString(Path.of(SOURCE));
        words(code(source));
        lengths(source);
        Checks.end();
    }

    private static void holds(String what, boolean so) {
        Checks.is(what, true, so);
    }

    private static String told(Method m) {
        StringBuilder text = new StringBuilder(m.getReturnType() + " " + m.getName());
        text.append(Arrays.toString(m.getParameterTypes()).replace('[', '(').replace(']', ')'));
        String thrown = Arrays.stream(m.getExceptionTypes()).map(Class::getSimpleName)
                .reduce((a, b) -> a + ", " + b).orElse("");
        return thrown.isEmpty() ? text.toString() : text + " throws " + thrown;
    }

    private static void face() {
        holds("public and final", GlassThreads.class.getModifiers() == (Modifier.PUBLIC | Modifier.FINAL));
        Set<String> due = new TreeSet<>(List.of(FACE));
        Set<String> got = new TreeSet<>();
        for (Method m : GlassThreads.class.getDeclaredMethods()) {
            if (Modifier.isPublic(m.getModifiers())) {
                got.add(told(m));
            }
        }
        for (String method : due) {
            holds(method + " is there", got.contains(method));
        }
        Checks.is("no other", due.size(), got.size());
        Constructor<?>[] made = GlassThreads.class.getDeclaredConstructors();
        holds("one constructor", made.length == 1 && made[0].getParameterCount() == 0
                && Modifier.isPublic(made[0].getModifiers()));
        Checks.is("one public field", 1, GlassThreads.class.getFields().length);
        holds("it is NONE", GlassThreads.class.getFields()[0].getName().equals("NONE"));
    }

    private static void members() {
        Set<String> names = new TreeSet<>();
        for (String method : FACE) {
            names.add(method.split("[ (]")[1]);
        }
        for (Method m : GlassThreads.class.getDeclaredMethods()) {
            if (!Modifier.isPublic(m.getModifiers())) {
                isInner(m, names);
            }
        }
        for (Class<?> c : GlassThreads.class.getDeclaredClasses()) {
            for (Method m : c.getDeclaredMethods()) {
                isInner(m, names);
            }
        }
    }

    private static void isInner(Method m, Set<String> names) {
        holds(m + " is private", Modifier.isPrivate(((Member) m).getModifiers()));
        holds(m + " bears no public name", !names.contains(m.getName()));
        holds(m + " takes seven at most", ((Executable) m).getParameterCount() <= 7);
    }

    private static void classes() {
        Class<?>[] inside = GlassThreads.class.getDeclaredClasses();
        holds("twelve classes at most", inside.length + 1 <= 12);
        fields(GlassThreads.class);
        for (Class<?> c : inside) {
            holds(c + " is private and static", Modifier.isPrivate(c.getModifiers())
                    && Modifier.isStatic(c.getModifiers()));
            fields(c);
        }
    }

    private static void fields(Class<?> c) {
        int many = 0;
        for (Field f : c.getDeclaredFields()) {
            boolean fixed = Modifier.isStatic(f.getModifiers());
            holds(f + " is final if static", !fixed || Modifier.isFinal(f.getModifiers()));
            holds(f + " is private", Modifier.isPrivate(f.getModifiers()) || f.getName().equals("NONE"));
            many += fixed ? 0 : 1;
        }
        holds(c + " has twenty fields at most", many <= 20);
    }

    /** The source without its comments and written texts. */
    private static String code(String source) {
        return source.replaceAll("(?s)/\\*.*?\\*/", " ").replaceAll("//[^\n]*", " ").replaceAll("\"[^\"\n]*\"", "\"\"");
    }

    private static void words(String code) {
        String[] never = {"try", "catch", "finally", "synchronized", "assert", "lambda", "float", "double",
            "Exact", "equals", "hashCode", "toString", "Object", "Thread", "Random", "Exception e"};
        for (String word : never) {
            holds("no " + word, !Pattern.compile("\\b" + word + "\\b").matcher(code).find());
        }
        holds("no lambda", !code.contains("->"));
        holds("no method reference", !code.contains("::"));
        only(code, "import ([\\w.]+);", Set.of("java.util.Arrays", "java.util.NoSuchElementException"));
        only(code, "\\bMath\\.(\\w+)", Set.of("max", "min", "abs"));
        only(code, "\\bArrays\\.(\\w+)", Set.of("fill"));
        only(code, "\\bSystem\\.(\\w+)", Set.of("arraycopy"));
        only(code, "\\bInteger\\.(\\w+)", Set.of("bitCount"));
        only(code, "throw (\\w+ \\w+)", Set.of("new IllegalArgumentException", "new NoSuchElementException"));
    }

    private static void only(String code, String pattern, Set<String> fine) {
        Matcher m = Pattern.compile(pattern).matcher(code);
        while (m.find()) {
            holds(m.group() + " is allowed", fine.contains(m.group(1)));
        }
    }

    private static void lengths(String source) {
        int begin = 0;
        String[] lines = source.split("\n");
        for (int i = 0; i < lines.length; i++) {
            if (lines[i].matches("\\s+(public|private)[^=;]*\\{") && !lines[i].contains(" class ")) {
                begin = i;
            }
            if (lines[i].matches(" {4}( {4})?\\}")) {
                boolean isShort = i - begin < MOST_LINES || lines[i].equals("    }");
                holds("line " + (i + 1) + " ends a short method", isShort);
            }
            holds("line " + (i + 1) + " is plain", lines[i].chars().allMatch(c -> c >= 32 && c < 127));
        }
    }
}
