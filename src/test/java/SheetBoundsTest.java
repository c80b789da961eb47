/**
 * Promises 35 to 39 at their bounds. Above each test stands the sentence of the document that it is
 * for; it asks on the bound, just below it and just above it.
 */
public final class SheetBoundsTest {
    private static final int NONE = GlassThreads.NONE;
    private static final int LEAST = Integer.MIN_VALUE;
    private static final int MOST = Integer.MAX_VALUE;

    public static void main(String[] args) {
        howManySheets();
        sortsAndSizes();
        allZeroAtFirst();
        placesOfASheet();
        numbersOfASort();
        leastReasonOfWrite();
        partsToCopy();
        partsOfNone();
        ontoItself();
        leastReasonOfCopy();
        copiesOfASort();
        noSuchSheet();
        howManyEchoes();
        partsOfARow();
        numbersOfARow();
        leastReasonOfARow();
        rowIsKept();
        counts();
        countsAtTheirMost();
        Checks.end();
    }

    private static void fill(GlassThreads x, int sheet, int... cells) {
        for (int i = 0; i < cells.length; i++) {
            Checks.is("write " + i, 0, x.write(sheet, i, cells[i]));
        }
    }

    /** A sheet of ints can only be read as a row: its places three by three. */
    private static void holds(String what, GlassThreads x, int sheet, int... cells) {
        Checks.is(what + ": a row", 0, x.rowOf(sheet, 0, cells.length / 3));
        for (int i = 0; i < cells.length; i++) {
            Checks.is(what + ", place " + i, cells[i], x.echoed(i / 3, i % 3));
        }
    }

    // "SHEETS, from 0 on, at most 8"; "NONE: there are 8, or no such sort; -2: .."
    private static void howManySheets() {
        GlassThreads x = new GlassThreads();
        for (int i = 0; i < 8; i++) {
            Checks.is("sheet " + i, i, x.sheet(i % 3, i % 2 == 0 ? 24 : -1));
            Checks.is("how many", i + 1, x.count(5));
        }
        Checks.is("a ninth one", NONE, x.sheet(0, 1));
        Checks.is("a ninth one of no size", NONE, x.sheet(0, 25));
        Checks.is("a ninth one of no sort", NONE, x.sheet(3, 1));
        Checks.is("eight", 8, x.count(5));
        Checks.is("the eighth is there", 1, x.write(7, 0, 0));
        Checks.noSuch("the ninth isn't", () -> x.write(8, 0, 0));
    }

    // "of a size (0 to 24) of bytes, shorts or ints (sorts 0 to 2)"; "-2: the size is below -1, or above 24"
    private static void sortsAndSizes() {
        int[] badSizes = {-2, 25, LEAST, MOST};
        int[] badSorts = {-1, 3, LEAST, MOST};
        int[] goodSizes = {-1, 0, 1, 23, 24};
        for (int sort = 0; sort <= 2; sort++) {
            GlassThreads x = new GlassThreads();
            for (int size : badSizes) {
                Checks.is("size " + size, -2, x.sheet(sort, size));
            }
            for (int bad : badSorts) {
                Checks.is("sort " + bad, NONE, x.sheet(bad, 5));
                Checks.is("sort " + bad + " ahead of its size", NONE, x.sheet(bad, 25));
                Checks.is("sort " + bad + " ahead of its size below", NONE, x.sheet(bad, -2));
            }
            Checks.is("none so far", 0, x.count(5));
            for (int i = 0; i < 5; i++) {
                int size = goodSizes[i];
                Checks.is("size " + size, i, x.sheet(sort, size));
                if (size == -1) {
                    Checks.is("it is missing", 1, x.write(i, 0, 0));
                } else {
                    Checks.is("its last place", size == 0 ? 3 : 0, x.write(i, size - 1, 7));
                    Checks.is("none behind it", 3, x.write(i, size, 7));
                }
            }
        }
    }

    // "all 0 at first"
    private static void allZeroAtFirst() {
        for (int sort = 0; sort <= 2; sort++) {
            GlassThreads x = new GlassThreads();
            x.sheet(sort, 24);
            holds("sort " + sort, x, 0, new int[24]);
            fill(x, 0, 1, 2, 3);
            x.sheet(sort, 24);
            holds("another one", x, 1, new int[24]);
        }
    }

    // "3 a place or part that it hasn't"
    private static void placesOfASheet() {
        for (int size = 0; size <= 24; size += size == 1 ? 22 : 1) {
            GlassThreads x = new GlassThreads();
            x.sheet(0, size);
            for (int at = -1; at <= 25; at++) {
                Checks.is("place " + at + " of " + size, at >= 0 && at < size ? 0 : 3, x.write(0, at, 1));
            }
            Checks.is("the least place", 3, x.write(0, LEAST, 1));
            Checks.is("the greatest place", 3, x.write(0, MOST, 1));
        }
    }

    // "4 a number out of bounds"; "4: v is none of its sort"
    private static void numbersOfASort() {
        int[][] bounds = {{-128, 127}, {-32768, 32767}, {LEAST, MOST}};
        int[] tried = {LEAST, LEAST + 1, -65536, -32769, -32768, -32767, -129, -128, -127, -1, 0, 1, 126, 127, 128, 255,
            256, 32766, 32767, 32768, 65535, 65536, MOST - 1, MOST};
        for (int sort = 0; sort <= 2; sort++) {
            GlassThreads x = new GlassThreads();
            x.sheet(sort, 3);
            int last = 0;
            for (int v : tried) {
                boolean fits = v >= bounds[sort][0] && v <= bounds[sort][1];
                Checks.is(v + " as sort " + sort, fits ? 0 : 4, x.write(0, 1, v));
                last = fits ? v : last;
                if (last >= 0) {
                    holds("it is there, or what was there stays", x, 0, 0, last, 0);
                } else {
                    Checks.is("it is there, or what was there stays", 4, x.rowOf(0, 0, 1));
                }
            }
        }
    }

    // "the least of these that is so"; "0, or why not (1, 3, 4)"
    private static void leastReasonOfWrite() {
        GlassThreads x = new GlassThreads();
        x.sheet(0, -1);
        x.sheet(0, 2);
        Checks.is("missing alone", 1, x.write(0, 0, 0));
        Checks.is("missing, no place", 1, x.write(0, 24, 0));
        Checks.is("missing, no byte", 1, x.write(0, 0, 128));
        Checks.is("missing, no place, no byte", 1, x.write(0, -1, 128));
        Checks.is("no place, no byte", 3, x.write(1, 2, 128));
        Checks.is("no place ahead, no byte", 3, x.write(1, -1, -129));
        Checks.is("no place alone", 3, x.write(1, 2, 127));
        Checks.is("no byte alone", 4, x.write(1, 1, 128));
        Checks.is("right", 0, x.write(1, 1, 127));
    }

    // "A part of one SHEET, n places from one on, is laid into another one from a place on"
    private static void partsToCopy() {
        for (int at = -1; at <= 7; at++) {
            for (int on = -1; on <= 10; on++) {
                for (int n = -1; n <= 7; n++) {
                    GlassThreads x = new GlassThreads();
                    x.sheet(2, 6);
                    x.sheet(2, 9);
                    fill(x, 0, 1, 2, 3, 4, 5, 4);
                    boolean fits = at >= 0 && on >= 0 && n >= 0 && at + n <= 6 && on + n <= 9;
                    Checks.is(n + " from " + at + " to " + on, fits ? 0 : 3, x.copy(0, at, 1, on, n));
                    int[] due = new int[9];
                    for (int i = 0; fits && i < n; i++) {
                        due[on + i] = new int[] {1, 2, 3, 4, 5, 4}[at + i];
                    }
                    laidIs(x, due);
                }
            }
        }
    }

    /** Looks at each place by laying it alone into the size of a row's one echo. */
    private static void laidIs(GlassThreads x, int[] due) {
        x.sheet(2, 3);
        for (int i = 0; i < due.length; i++) {
            Checks.is("one place", 0, x.copy(1, i, 2, 1, 1));
            Checks.is("a row", 0, x.rowOf(2, 0, 1));
            Checks.is("place " + i, due[i], x.echoed(0, 1));
        }
    }

    private static void partsOfNone() {
        GlassThreads x = new GlassThreads();
        x.sheet(0, 0);
        x.sheet(0, 24);
        Checks.is("none of none", 0, x.copy(0, 0, 0, 0, 0));
        Checks.is("one of none", 3, x.copy(0, 0, 1, 0, 1));
        Checks.is("one into none", 3, x.copy(1, 0, 0, 0, 1));
        Checks.is("none from behind the end", 3, x.copy(0, 1, 1, 0, 0));
        Checks.is("none to the end", 0, x.copy(1, 24, 1, 24, 0));
        Checks.is("none to behind the end", 3, x.copy(1, 0, 1, 25, 0));
        Checks.is("all", 0, x.copy(1, 0, 1, 0, 24));
        Checks.is("all and one", 3, x.copy(1, 0, 1, 0, 25));
        int[] far = {LEAST, MOST};
        for (int f : far) {
            Checks.is("from " + f, 3, x.copy(1, f, 1, 0, 1));
            Checks.is("to " + f, 3, x.copy(1, 0, 1, f, 1));
            Checks.is("of " + f, 3, x.copy(1, 1, 1, 1, f));
            Checks.is("from " + f + " of " + f, 3, x.copy(1, f, 1, f, f));
        }
    }

    // "into another one (or the same)"
    private static void ontoItself() {
        for (int at = 0; at <= 6; at++) {
            for (int on = 0; on <= 6; on++) {
                for (int n = 0; n <= 6 - Math.max(at, on); n++) {
                    GlassThreads x = new GlassThreads();
                    x.sheet(1, 6);
                    x.sheet(1, 6);
                    int[] cells = {1, 2, 3, 4, 5, 4};
                    fill(x, 1, cells);
                    Checks.is(n + " from " + at + " to " + on, 0, x.copy(1, at, 1, on, n));
                    int[] due = cells.clone();
                    for (int i = 0; i < n; i++) {
                        due[on + i] = cells[at + i];
                    }
                    x.sheet(1, 3);
                    for (int i = 0; i < 6; i++) {
                        x.copy(1, i, 2, 1, 1);
                        x.rowOf(2, 0, 1);
                        Checks.is("place " + i, due[i], x.echoed(0, 1));
                    }
                }
            }
        }
    }

    // "0, or why not (1, 2, 3, of one of both; nothing changes then)"
    private static void leastReasonOfCopy() {
        GlassThreads x = new GlassThreads();
        x.sheet(0, 3);
        x.sheet(0, -1);
        x.sheet(1, -1);
        x.sheet(1, 3);
        int[][] missing = {{0, 1}, {1, 0}, {1, 1}, {0, 2}, {2, 0}, {1, 2}, {3, 1}, {1, 3}, {2, 2}};
        for (int[] m : missing) {
            Checks.is("missing", 1, x.copy(m[0], 0, m[1], 0, 0));
            Checks.is("missing ahead of places", 1, x.copy(m[0], 4, m[1], 4, 4));
        }
        Checks.is("another sort", 2, x.copy(0, 0, 3, 0, 1));
        Checks.is("another sort back", 2, x.copy(3, 0, 0, 0, 0));
        Checks.is("another sort ahead of places", 2, x.copy(0, 4, 3, 0, 1));
        Checks.is("another sort ahead of places there", 2, x.copy(0, 0, 3, -1, 1));
        Checks.is("no part", 3, x.copy(0, 1, 0, 0, 3));
        Checks.is("no part there", 3, x.copy(0, 0, 0, 1, 3));
        Checks.is("right", 0, x.copy(0, 0, 0, 0, 3));
    }

    private static void copiesOfASort() {
        int[][] ends = {{127, 0, 4}, {32767, 32767, 0}, {MOST, MOST, 4}};
        for (int from = 0; from <= 2; from++) {
            for (int to = 0; to <= 2; to++) {
                GlassThreads x = new GlassThreads();
                x.sheet(from, 3);
                x.sheet(to, 3);
                fill(x, 0, ends[from]);
                Checks.is("sort " + from + " to " + to, from == to ? 0 : 2, x.copy(0, 0, 1, 0, 3));
                holds("sort " + from + " to " + to, x, 1, from == to ? ends[from] : new int[3]);
            }
        }
    }

    // "NoSuchElementException: no such SHEET (as everywhere)."
    private static void noSuchSheet() {
        GlassThreads x = new GlassThreads();
        Checks.noSuch("none at all", () -> x.write(0, 0, 0));
        x.sheet(0, 3);
        x.sheet(0, -1);
        int[] bad = {-1, 2, LEAST, MOST};
        for (int b : bad) {
            Checks.noSuch("write " + b, () -> x.write(b, 0, 0));
            Checks.noSuch("write " + b + " ahead of why not", () -> x.write(b, -1, 128));
            Checks.noSuch("from " + b, () -> x.copy(b, 0, 0, 0, 0));
            Checks.noSuch("to " + b, () -> x.copy(0, 0, b, 0, 0));
            Checks.noSuch("to " + b + " of a missing one", () -> x.copy(1, -1, b, -1, -1));
            Checks.noSuch("row of " + b, () -> x.rowOf(b, 0, 0));
            Checks.noSuch("row of " + b + " ahead of n", () -> x.rowOf(b, 0, 9));
        }
    }

    // "n of them (0 to 8)"; "IllegalArgumentException: n is not as told."
    private static void howManyEchoes() {
        GlassThreads x = new GlassThreads();
        x.sheet(0, 24);
        x.sheet(0, -1);
        int[] bad = {-1, 9, LEAST, MOST};
        for (int n : bad) {
            Checks.illegal("n " + n, () -> x.rowOf(0, 0, n));
            Checks.illegal("n " + n + " of a missing one", () -> x.rowOf(1, 0, n));
            Checks.illegal("n " + n + " from nowhere", () -> x.rowOf(0, -1, n));
        }
        for (int n = 0; n <= 8; n++) {
            Checks.is("n " + n, 0, x.rowOf(0, 0, n));
            int many = n;
            if (n > 0) {
                Checks.is("the last of " + n, 0, x.echoed(n - 1, 0));
            }
            Checks.noSuch("no more than " + n, () -> x.echoed(many, 0));
        }
    }

    // "three places each, n of them from a place on"; "3"
    private static void partsOfARow() {
        for (int size = 0; size <= 24; size += 8) {
            GlassThreads x = new GlassThreads();
            x.sheet(2, size);
            for (int at = -1; at <= 25; at++) {
                for (int n = 0; n <= 8; n++) {
                    boolean fits = at >= 0 && at + 3 * n <= size;
                    Checks.is(n + " from " + at + " of " + size, fits ? 0 : 3, x.rowOf(0, at, n));
                }
            }
            Checks.is("from the least", 3, x.rowOf(0, LEAST, 1));
            Checks.is("from the greatest", 3, x.rowOf(0, MOST, 8));
        }
    }

    // "4: a number below 0, a kind above 4, distances that fall; nothing changes then"
    private static void numbersOfARow() {
        GlassThreads x = new GlassThreads();
        x.sheet(2, 6);
        int[] good = {7, 0, 4, 7, 0, 0};
        fill(x, 0, 5, 6, 3, 9, 8, 1);
        holds("as told", x, 0, 5, 6, 3, 9, 8, 1);
        for (int place = 0; place < 6; place++) {
            int[] tried = {LEAST, -2, -1, 0, 1, 4, 5, 6, 7, 8, MOST};
            for (int v : tried) {
                fill(x, 0, good);
                x.write(0, place, v);
                boolean fits = v >= 0;
                if (place % 3 == 2) {
                    fits &= v <= 4;
                } else if (place == 0) {
                    fits &= v <= 7;
                } else if (place == 3) {
                    fits &= v >= 7;
                }
                Checks.is("place " + place + " of " + v, fits ? 0 : 4, x.rowOf(0, 0, 2));
                if (fits) {
                    Checks.is("it is kept", v, x.echoed(place / 3, place % 3));
                    Checks.is("the last is kept", place == 3 ? v : 7, x.echoed(1, 0));
                    fill(x, 0, 5, 6, 3, 9, 8, 1);
                    Checks.is("the row ahead again", 0, x.rowOf(0, 0, 2));
                } else {
                    Checks.is("the first stays", 5, x.echoed(0, 0));
                    Checks.is("the last stays", 1, x.echoed(1, 2));
                }
            }
        }
    }

    // "0, or why not (1, 3, 4 ..)"; "the least of these that is so"
    private static void leastReasonOfARow() {
        GlassThreads x = new GlassThreads();
        x.sheet(0, 5);
        x.sheet(0, -1);
        fill(x, 0, -1, -1, -1, -1, -1);
        Checks.is("missing, even of none", 1, x.rowOf(1, 0, 0));
        Checks.is("missing, from nowhere", 1, x.rowOf(1, -1, 8));
        Checks.is("no part, bad numbers", 3, x.rowOf(0, 0, 2));
        Checks.is("no part from the third on", 3, x.rowOf(0, 3, 1));
        Checks.is("bad numbers", 4, x.rowOf(0, 2, 1));
        Checks.is("none of them", 0, x.rowOf(0, 5, 0));
        Checks.is("none of them behind the end", 3, x.rowOf(0, 6, 0));
    }

    // "The ROW that is kept comes from a SHEET"
    private static void rowIsKept() {
        GlassThreads x = new GlassThreads();
        Checks.thread(x, "splice; run 9; splice;", 0);
        x.sheet(2, 4);
        fill(x, 0, 0, 3, 60, 4);
        x.echo(0, 0, false, 0, 0);
        Checks.is("from the second place on", 0, x.rowOf(0, 1, 1));
        Checks.is("distance", 3, x.echoed(0, 0));
        Checks.is("size", 60, x.echoed(0, 1));
        Checks.is("kind", 4, x.echoed(0, 2));
        Checks.noSuch("just one", () -> x.echoed(1, 0));
        x.write(0, 1, 5);
        Checks.is("writing doesn't change it", 3, x.echoed(0, 0));
        x.echo(0, 0, false, 0, 0);
        Checks.is("another row in its place", 9, x.echoed(1, 0));
        Checks.is("none of it", 0, x.rowOf(0, 4, 0));
        Checks.noSuch("an empty row", () -> x.echoed(0, 0));
    }

    // "NoSuchElementException: another what."
    private static void counts() {
        GlassThreads x = new GlassThreads();
        int[] bad = {-1, 8, LEAST, MOST};
        for (int what : bad) {
            Checks.noSuch("what " + what, () -> x.count(what));
        }
        for (int what = 0; what < 8; what++) {
            Checks.is("what " + what, 0, x.count(what));
        }
    }

    // "0 TONIGHT, 1 THREADS, 2 EVENTS, 3 CABLES, 4 TASKS, 5 SHEETS, 6 SUSPECTS, 7 bytes of the tape"
    private static void countsAtTheirMost() {
        GlassThreads x = new GlassThreads();
        x.evenings(999);
        for (int i = 0; i < 9; i++) {
            Checks.thread(x, "run 1;run 1;run 1;run 1;run 1;run 1;run 1;run 1;run 1;", 0);
            x.sheet(0, 0);
            x.task(0, 1);
        }
        x.look(7);
        for (int i = 0; i < 9; i++) {
            x.suspect(i, 1);
        }
        for (int i = 0; i < 21; i++) {
            x.feed(0, 0, 0, 0, 0);
        }
        for (int i = 0; i < 11; i++) {
            x.cable(0, 1, 0, 1);
        }
        for (int i = 0; i < 121; i++) {
            x.event(0, 0, 0, 1, 0);
        }
        int[] due = {999, 8, 120, 10, 6, 8, 8, 400};
        for (int what = 0; what < 8; what++) {
            Checks.is("what " + what, due[what], x.count(what));
        }
    }
}
