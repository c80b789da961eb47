/** Promises 35 to 39: sheets, what is written and copied, rows that come from them, and counts. */
public final class SheetsTest {
    private static final int NONE = GlassThreads.NONE;

    public static void main(String[] args) {
        sheets();
        write();
        bounds();
        copy();
        copyOntoItself();
        copyWrong();
        rowOf();
        rowBounds();
        rowWrong();
        counts();
        Checks.end();
    }

    private static void sheets() {
        GlassThreads x = new GlassThreads();
        Checks.is("size 25", -2, x.sheet(0, 25));
        Checks.is("size -2", -2, x.sheet(2, -2));
        Checks.is("sort 3", NONE, x.sheet(3, 0));
        Checks.is("sort -1 ahead of the size", NONE, x.sheet(-1, 25));
        Checks.is("none yet", 0, x.count(5));
        int[] sizes = {0, 24, -1, 1, 2, 3, 4, 5};
        for (int i = 0; i < 8; i++) {
            Checks.is("sheet " + i, i, x.sheet(i % 3, sizes[i]));
        }
        Checks.is("the ninth", NONE, x.sheet(0, 1));
        Checks.is("the ninth ahead of its size", NONE, x.sheet(0, 25));
        Checks.is("eight", 8, x.count(5));
        Checks.is("size 0 has no place", 3, x.write(0, 0, 0));
        Checks.is("size 24 has 23", 0, x.write(1, 23, 0));
        Checks.is("but no 24", 3, x.write(1, 24, 0));
    }

    private static void write() {
        GlassThreads x = new GlassThreads();
        x.sheet(0, 2);
        x.sheet(0, -1);
        Checks.is("missing", 1, x.write(1, 5, 500));
        Checks.is("no place ahead of the number", 3, x.write(0, 2, 500));
        Checks.is("place -1", 3, x.write(0, -1, 0));
        Checks.is("number", 4, x.write(0, 1, 500));
        Checks.is("fine", 0, x.write(0, 1, 5));
        Checks.noSuch("sheet 2", () -> x.write(2, 0, 0));
        Checks.noSuch("sheet -1", () -> x.write(-1, 0, 0));
    }

    private static void bounds() {
        GlassThreads x = new GlassThreads();
        int[][] least = {{-128, 127}, {-32768, 32767}, {Integer.MIN_VALUE, Integer.MAX_VALUE}};
        for (int sort = 0; sort < 3; sort++) {
            x.sheet(sort, 1);
            Checks.is("least of " + sort, 0, x.write(sort, 0, least[sort][0]));
            Checks.is("most of " + sort, 0, x.write(sort, 0, least[sort][1]));
            if (sort < 2) {
                Checks.is("below least of " + sort, 4, x.write(sort, 0, least[sort][0] - 1));
                Checks.is("above most of " + sort, 4, x.write(sort, 0, least[sort][1] + 1));
            }
        }
        Checks.is("a whole turn is no byte", 4, x.write(0, 0, 256));
        Checks.is("nor a short", 4, x.write(1, 0, 65536));
    }

    private static void fill(GlassThreads x, int sheet, int... cells) {
        for (int i = 0; i < cells.length; i++) {
            Checks.is("write " + i, 0, x.write(sheet, i, cells[i]));
        }
    }

    /** A sheet can only be read as a row: its places three by three. */
    private static void holds(String what, GlassThreads x, int sheet, int... cells) {
        Checks.is(what + ": a row", 0, x.rowOf(sheet, 0, cells.length / 3));
        for (int i = 0; i < cells.length; i++) {
            Checks.is(what + ", place " + i, cells[i], x.echoed(i / 3, i % 3));
        }
    }

    private static void copy() {
        GlassThreads x = new GlassThreads();
        x.sheet(1, 6);
        x.sheet(1, 9);
        fill(x, 0, 1, 2, 3, 4, 5, 4);
        holds("all 0 at first", x, 1, 0, 0, 0, 0, 0, 0, 0, 0, 0);
        Checks.is("a part", 0, x.copy(0, 0, 1, 6, 3));
        holds("laid in", x, 1, 0, 0, 0, 0, 0, 0, 1, 2, 3);
        Checks.is("all", 0, x.copy(0, 0, 1, 3, 6));
        holds("all of it", x, 1, 0, 0, 0, 1, 2, 3, 4, 5, 4);
        holds("the other stays", x, 0, 1, 2, 3, 4, 5, 4);
        Checks.is("none at the end", 0, x.copy(0, 6, 1, 9, 0));
        Checks.is("none behind the end", 3, x.copy(0, 7, 1, 0, 0));
        Checks.is("none behind the other's end", 3, x.copy(0, 0, 1, 10, 0));
        Checks.is("none ahead", 3, x.copy(0, -1, 1, 0, 0));
        Checks.is("too far", 3, x.copy(0, 1, 1, 0, 6));
        Checks.is("too far there", 3, x.copy(0, 0, 1, 4, 6));
        Checks.is("there ahead", 3, x.copy(0, 0, 1, -1, 3));
        Checks.is("below 0", 3, x.copy(0, 3, 1, 3, -1));
        Checks.is("far too many", 3, x.copy(0, 1, 1, 1, Integer.MAX_VALUE));
        Checks.is("far too far", 3, x.copy(0, Integer.MAX_VALUE, 1, 1, 1));
        holds("nothing changed", x, 1, 0, 0, 0, 1, 2, 3, 4, 5, 4);
    }

    private static void copyOntoItself() {
        GlassThreads x = new GlassThreads();
        x.sheet(2, 6);
        fill(x, 0, 1, 2, 3, 4, 5, 4);
        Checks.is("forward", 0, x.copy(0, 0, 0, 3, 3));
        holds("forward", x, 0, 1, 2, 3, 1, 2, 3);
        fill(x, 0, 1, 2, 1, 2, 3, 3);
        Checks.is("overlapping forward", 0, x.copy(0, 0, 0, 1, 3));
        holds("overlapping forward", x, 0, 1, 1, 2, 1, 3, 3);
        fill(x, 0, 9, 1, 1, 2, 3, 3);
        Checks.is("overlapping back", 0, x.copy(0, 1, 0, 0, 5));
        holds("overlapping back", x, 0, 1, 1, 2, 3, 3, 3);
    }

    private static void copyWrong() {
        GlassThreads x = new GlassThreads();
        x.sheet(0, 3);
        x.sheet(1, -1);
        x.sheet(1, 3);
        Checks.is("missing ahead of the sort", 1, x.copy(0, 9, 1, 9, 9));
        Checks.is("the first missing", 1, x.copy(1, 0, 2, 0, 0));
        Checks.is("missing with itself", 1, x.copy(1, 0, 1, 0, 0));
        Checks.is("sort ahead of the place", 2, x.copy(0, 9, 2, 9, 9));
        Checks.is("sort even of none", 2, x.copy(2, 0, 0, 0, 0));
        Checks.noSuch("from", () -> x.copy(3, 0, 0, 0, 0));
        Checks.noSuch("to", () -> x.copy(0, 0, -1, 0, 0));
    }

    private static void rowOf() {
        GlassThreads x = new GlassThreads();
        x.sheet(0, 24);
        int[] cells = new int[24];
        for (int i = 0; i < 8; i++) {
            cells[3 * i] = i / 2;
            cells[3 * i + 1] = 127;
            cells[3 * i + 2] = i % 5;
        }
        fill(x, 0, cells);
        holds("eight", x, 0, cells);
        Checks.noSuch("no more", () -> x.echoed(8, 0));
        Checks.is("from a place on", 0, x.rowOf(0, 21, 1));
        Checks.is("its distance", 3, x.echoed(0, 0));
        Checks.noSuch("just one", () -> x.echoed(1, 0));
        x.write(0, 21, 0);
        Checks.is("the row is a copy", 3, x.echoed(0, 0));
        Checks.is("too far", 3, x.rowOf(0, 22, 1));
        Checks.is("far too far", 3, x.rowOf(0, Integer.MAX_VALUE, 1));
        Checks.is("place -1", 3, x.rowOf(0, -1, 0));
        Checks.is("none behind the end", 3, x.rowOf(0, 25, 0));
        Checks.is("it stays", 3, x.echoed(0, 0));
        Checks.is("none at the end", 0, x.rowOf(0, 24, 0));
        Checks.noSuch("an empty row", () -> x.echoed(0, 0));
    }

    private static void rowBounds() {
        GlassThreads x = new GlassThreads();
        x.sheet(2, 6);
        fill(x, 0, 70000, 0, 4, Integer.MAX_VALUE, Integer.MAX_VALUE, 0);
        holds("great numbers", x, 0, 70000, 0, 4, Integer.MAX_VALUE, Integer.MAX_VALUE, 0);
        int[][] bad = {{0, -1}, {1, -1}, {2, -1}, {2, 5}, {3, 69999}, {4, -1}, {5, -1}, {5, 5}};
        for (int[] b : bad) {
            fill(x, 0, 70000, 0, 4, 70000, 7, 0);
            x.write(0, b[0], b[1]);
            Checks.is("place " + b[0] + " of " + b[1], 4, x.rowOf(0, 0, 2));
            Checks.is("it stays", Integer.MAX_VALUE, x.echoed(1, 0));
        }
        Checks.is("only what is asked for counts", 0, x.rowOf(0, 0, 1));
    }

    private static void rowWrong() {
        GlassThreads x = new GlassThreads();
        x.sheet(0, 24);
        x.sheet(0, -1);
        Checks.illegal("n 9", () -> x.rowOf(0, 0, 9));
        Checks.illegal("n -1", () -> x.rowOf(0, 0, -1));
        Checks.illegal("n 9 of a missing one", () -> x.rowOf(1, 0, 9));
        Checks.noSuch("sheet ahead of n", () -> x.rowOf(2, 0, 9));
        Checks.is("missing", 1, x.rowOf(1, 99, 8));
    }

    private static void counts() {
        GlassThreads x = new GlassThreads();
        x.evenings(9);
        for (int i = 0; i < 3; i++) {
            Checks.thread(x, "run 5;", 0);
        }
        for (int i = 0; i < 4; i++) {
            x.event(0, 0, 0, 1, 0);
            x.cable(i, i + 1, 0, 1);
        }
        x.cable(0, 7, 0, 1);
        x.task(0, 1);
        x.task(0, 1);
        x.sheet(0, 1);
        x.look(1);
        x.suspect(0, 1);
        Checks.feed(x, "run 5;");
        int[] due = {9, 3, 4, 5, 2, 1, 1, 20};
        for (int what = 0; what < due.length; what++) {
            Checks.is("count " + what, due[what], x.count(what));
        }
        Checks.noSuch("count 8", () -> x.count(8));
        Checks.noSuch("count NONE", () -> x.count(NONE));
    }
}
