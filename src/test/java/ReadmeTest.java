import java.io.IOException;
import java.nio.file.Files;
import java.nio.file.Path;
import java.util.ArrayList;
import java.util.List;

/** README.md's own lines: each call there answers what stands behind it. */
public final class ReadmeTest {
    private static final List<String> SHOWN = new ArrayList<>();
    private static int next = 0;

    public static void main(String[] args) throws IOException {
        for (String line : Files.readAllLines(Path.of("README.md"))) {
            if (line.contains("x.") && line.contains(");") && line.contains("//")) {
                SHOWN.add(line);
            }
        }
        GlassThreads x = new GlassThreads();
        x.feed(0x72756E20, 0x3130303B, 0x73706C69, 0x63653B72, 0x756E2034);
        x.feed(0x303B2020, 0x20202020, 0x20202020, 0x20202020, 0x20202020);
        shown("x.feed(0x72756E20, 0x3130303B, 0x73706C69, 0x63653B72, 0x756E2034)", "\"run 100;splice;run 4\"");
        shown("x.feed(0x303B2020, 0x20202020, 0x20202020, 0x20202020, 0x20202020)", "\"0;\"");
        shown("x.thread(22, 10)", x.thread(22, 10));
        shown("x.part(thread, GlassThreads.NONE, 0)", x.part(0, GlassThreads.NONE, 0));
        shown("x.level(thread, 2, 0, 0, false, 3650, 0)", x.level(0, 2, 0, 0, false, 3650, 0));
        shown("x.evenings(1)", "tonight is " + x.evenings(1));
        shown("x.event(0, thread, 2, 60, 4000)", x.event(0, 0, 2, 60, 4000));
        shown("x.level(thread, 2, 0, 0, false, 4000, 1)", x.level(0, 2, 0, 0, false, 4000, 1));
        shown("x.level(thread, 2, 0, 0, false, 4000, 0)", x.level(0, 2, 0, 0, false, 4000, 0));
        shown("x.echo(thread, 0, false, 4000, 1)", x.echo(0, 0, false, 4000, 1));
        shown("x.echoed(1, 0)", x.echoed(1, 0));
        x.look(0);
        shown("x.suspect(0, 60)", x.suspect(0, 60));
        shown("x.suspect(2, 60)", x.suspect(2, 60));
        shown("x.seen(false)", x.seen(false));
        shown("x.readBack(0)", x.readBack(0));
        shown("x.found(0)", x.found(0));
        shown("x.cable(0, 1, thread, 2)", x.cable(0, 1, 0, 2));
        shown("x.cable(1, 2, thread, 2)", x.cable(1, 2, 0, 2));
        shown("x.task(0, 2)", x.task(0, 2));
        shown("x.way(0, 2)", x.way(0, 2));
        shown("x.along(1)", x.along(1));
        shown("x.deal()", x.deal());
        shown("x.worst(1)", x.worst(1));
        Checks.is("lines that README.md shows", next, SHOWN.size());
        Checks.end();
    }

    private static void shown(String call, Object answer) {
        String line = next < SHOWN.size() ? SHOWN.get(next) : "";
        next++;
        String[] sides = line.split("//", 2);
        String told = sides.length == 2 ? sides[1].trim() : "";
        boolean same = told.equals(answer.toString()) || told.startsWith(answer + ":") || told.startsWith(answer + " ");
        Checks.is("'" + line + "' shows " + call, true, sides[0].contains(call + ";"));
        Checks.is("'" + line + "' tells " + answer, true, same);
    }
}
