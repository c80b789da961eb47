import java.util.Arrays;
import java.util.Random;

/** Promises 22 to 25: where to dig, and the levels of lamps. */
public final class DigLampsTest {
    private static final int NONE = GlassThreads.NONE;

    public static void main(String[] args) {
        dig();
        digWrong();
        both();
        bothWrong();
        oneLamp();
        fewestSteps();
        firstRow();
        allRows();
        nothingComes();
        lampsWrong();
        steps();
        Checks.end();
    }

    private static void dig() {
        GlassThreads x = new GlassThreads();
        Checks.is("no slack, beginning", 777, x.dig(777, 0, 0, 0));
        Checks.is("no slack, end", 777, x.dig(777, 0, 0, 1));
        Checks.is("cut down", 666, x.dig(1000, 500, 500, 0));
        Checks.is("cut up", 667, x.dig(1000, 500, 500, 1));
        Checks.is("the high for the beginning", 666, x.dig(1000, 0, 500, 0));
        Checks.is("the low for the end", 1000, x.dig(1000, 0, 500, 1));
        Checks.is("even", 1000, x.dig(1100, 100, 100, 1));
        Checks.is("none", 0, x.dig(0, 1, 500, 1));
        Checks.is("the furthest", 99999, x.dig(99999, 0, 1, 1));
        Checks.is("the furthest, beginning", 99899, x.dig(99999, 0, 1, 0));
    }

    private static void digWrong() {
        GlassThreads x = new GlassThreads();
        Checks.illegal("d -1", () -> x.dig(-1, 0, 0, 0));
        Checks.illegal("d 100000", () -> x.dig(100000, 0, 0, 2));
        Checks.illegal("low -1", () -> x.dig(0, -1, 0, 2));
        Checks.illegal("high 501", () -> x.dig(0, 0, 501, 2));
        Checks.illegal("low 501", () -> x.dig(0, 501, 501, 0));
        Checks.illegal("low above high", () -> x.dig(0, 2, 1, 2));
        Checks.noSuch("what 2", () -> x.dig(0, 0, 0, 2));
        Checks.noSuch("what -1", () -> x.dig(0, 0, 0, -1));
    }

    private static void both() {
        GlassThreads x = new GlassThreads();
        // from d 1000 to 1100, from e 1909 to 2100 of 3100
        Checks.is("the greater beginning", 1000, x.both(1100, 2100, 3100, 0, 100, 0));
        Checks.is("the lesser end", 1100, x.both(1100, 2100, 3100, 0, 100, 1));
        // from e 950 to 1050
        Checks.is("the beginning by d", 1000, x.both(1100, 1155, 2100, 0, 100, 0));
        Checks.is("the end by e", 1050, x.both(1100, 1155, 2100, 0, 100, 1));
        // from e 1050 to 1241
        Checks.is("the beginning by e", 1050, x.both(1100, 2100, 3150, 0, 100, 0));
        Checks.is("the end by d", 1100, x.both(1100, 2100, 3150, 0, 100, 1));
        Checks.is("one place", 500, x.both(500, 500, 1000, 0, 0, 1));
        Checks.is("none", NONE, x.both(500, 501, 1000, 0, 0, 0));
        Checks.is("none, its end", NONE, x.both(500, 499, 1000, 0, 0, 1));
        Checks.is("below 0", NONE, x.both(0, 99999, 0, 0, 500, 0));
        Checks.is("at 0", 0, x.both(0, 0, 0, 0, 500, 1));
    }

    private static void bothWrong() {
        GlassThreads x = new GlassThreads();
        Checks.illegal("d", () -> x.both(100000, 0, 0, 0, 0, 2));
        Checks.illegal("e", () -> x.both(0, 100000, 0, 0, 0, 2));
        Checks.illegal("e -1", () -> x.both(0, -1, 0, 0, 0, 0));
        Checks.illegal("g", () -> x.both(0, 0, 100000, 0, 0, 2));
        Checks.illegal("g -1", () -> x.both(0, 0, -1, 0, 0, 0));
        Checks.illegal("slack", () -> x.both(0, 0, 0, 5, 4, 2));
        Checks.noSuch("what, where there is no span", () -> x.both(500, 501, 1000, 0, 0, 2));
    }

    private static GlassThreads with(String thread, String law) {
        GlassThreads x = new GlassThreads();
        Checks.is("thread", 0, Checks.thread(x, thread, 0));
        Checks.is("law", 0, Checks.law(x, law));
        return x;
    }

    private static void lampsAre(String what, GlassThreads x, int... due) {
        for (int colour = 0; colour < 8; colour++) {
            Checks.is(what + ", steps of " + colour, colour < due.length ? due[colour] : NONE, x.steps(colour));
        }
    }

    private static void oneLamp() {
        GlassThreads x = with("run 10; amp 100 2000; run 5;", "");
        // 0 .. 3500 above -400, 20 less, lifted by 100 to 2000 at most, 10 less, noise 200
        Checks.is("margin", -400 + 3500 - 20 - 10 - 200, x.lamps(0, 1, -400, 0, 0, 0, 0, 0));
        lampsAre("above the amp's most already", x, 7);
        x.event(0, 0, 0, 1100, 0);
        Checks.is("to the amp's most", 2000 - 210, x.lamps(0, 1, -400, 0, 0, 0, 0, 0));
        lampsAre("all steps", x, 7);
        x.event(2, 0, 1, 0, 9);
        Checks.is("off, no noise", -400 + 3500 - 1120 - 5000 - 10 - 7, x.lamps(0, 1, -400, 7, 0, 0, 0, 9));
        x.back(0);
        x.back(1);
        Checks.is("as known tonight", -400 + 3500 - 20 - 10 - 200, x.lamps(0, 1, -400, 0, 0, 0, 0, 9));
    }

    private static void fewestSteps() {
        GlassThreads x = with("amp 40000 1000;", "noise 0;");
        Checks.is("all steps come to one level", 1000, x.lamps(0, 4, -20000, 0, 0, 0, 0, 0));
        lampsAre("none is needed", x, 0, 0, 0, 0);
        Checks.is("an amp's most of a high base", 20000 + 3500 - 700, x.lamps(0, 2, 20000, 0, 0, 0, 0, 0));
        lampsAre("both", x, 7, 7);
    }

    private static void firstRow() {
        GlassThreads x = with("run 1;", "run 0;");
        // colour 1 needs far more: the others go as low as they may without being the least one
        Checks.is("a great need", 3500 - 10000, x.lamps(0, 3, 0, 0, 10000, 0, 0, 0));
        lampsAre("the others dark", x, 0, 7, 0);
        // 7 and 6 steps: 3500 - 1000 - 600 and 3000 - 700
        Checks.is("a little need", 1900, x.lamps(0, 2, 0, 1000, 0, 0, 0, 0));
        lampsAre("the other a step lower", x, 7, 6);
    }

    /** All rows of steps tried one by one, in another order than the program does. */
    private static void allRows() {
        Random chance = new Random(24);
        for (int i = 0; i < 400; i++) {
            String amp = "amp " + 500 * chance.nextInt(5) + " " + 500 * chance.nextInt(6) + ";";
            GlassThreads x = with("run 3;" + amp + "plug 1; run 4;",
                    "run 50*colour*" + chance.nextInt(4) + "; plug 100*age; noise colour;");
            int n = 1 + chance.nextInt(i % 20 == 0 ? 4 : 3);
            int base = 250 * (chance.nextInt(12) - 8);
            int day = 365 * chance.nextInt(5);
            int[] needs = new int[4];
            int[][] margins = new int[4][8];
            for (int c = 0; c < 4; c++) {
                needs[c] = 100 * (chance.nextInt(60) - 30);
                for (int s = 0; s < 8; s++) {
                    margins[c][s] = x.margin(0, c, base + 500 * s, needs[c], day, 0);
                }
            }
            int[] best = bestRow(margins, n);
            int due = leastMargin(margins, best);
            Checks.is("the best of all", due, x.lamps(0, n, base, needs[0], needs[1], needs[2], needs[3], day));
            lampsAre("its row", x, best);
        }
    }

    private static int[] row(int i, int n) {
        int[] row = new int[n];
        for (int c = 0; c < n; c++) {
            row[c] = i >> 3 * c & 7;
        }
        return row;
    }

    private static int[] bestRow(int[][] margins, int n) {
        int[] best = row(0, n);
        for (int i = 1; i < 1 << 3 * n; i++) {
            int[] row = row(i, n);
            int more = leastMargin(margins, row) - leastMargin(margins, best);
            if (more > 0 || more == 0 && isAhead(row, best)) {
                best = row;
            }
        }
        return best;
    }

    private static int leastMargin(int[][] margins, int[] row) {
        int least = Integer.MAX_VALUE;
        for (int c = 0; c < row.length; c++) {
            int margin = margins[c][row[c]];
            for (int o = 0; o < row.length; o++) {
                margin -= o == c ? 0 : row[o] * 100 / Math.abs(o - c);
            }
            least = Math.min(least, margin);
        }
        return least;
    }

    private static boolean isAhead(int[] a, int[] b) {
        int sumA = Arrays.stream(a).sum();
        int sumB = Arrays.stream(b).sum();
        return sumA != sumB ? sumA < sumB : Arrays.compare(a, b) < 0;
    }

    private static void nothingComes() {
        GlassThreads x = with("run 10;", "");
        Checks.is("lamps", 3480, x.lamps(0, 1, 0, 0, 0, 0, 0, 0));
        x.event(1, 0, 0, 3, 5);
        Checks.is("ahead of the cut", 2780, x.lamps(0, 2, 0, 0, 0, 0, 0, 4));
        Checks.is("nothing comes", -1000000, x.lamps(0, 1, 0, 0, 0, 0, 0, 5));
        lampsAre("what was kept stays", x, 7, 7);
    }

    private static void lampsWrong() {
        GlassThreads x = with("run 10;", "");
        Checks.noSuch("thread", () -> x.lamps(1, 0, 0, 0, 0, 0, 0, 0));
        Checks.noSuch("day", () -> x.lamps(0, 0, 0, 0, 0, 0, 0, 36500));
        Checks.noSuch("day -1", () -> x.lamps(0, 1, 0, 0, 0, 0, 0, -1));
        Checks.illegal("n 0", () -> x.lamps(0, 0, 0, 0, 0, 0, 0, 0));
        Checks.illegal("n 5", () -> x.lamps(0, 5, 0, 0, 0, 0, 0, 0));
        Checks.illegal("base 20001", () -> x.lamps(0, 1, 20001, 0, 0, 0, 0, 0));
        Checks.illegal("base -60001", () -> x.lamps(0, 1, -60001, 0, 0, 0, 0, 0));
        int[] bad = {-60001, 30001};
        for (int need : bad) {
            Checks.illegal("need a", () -> x.lamps(0, 1, 0, need, 0, 0, 0, 0));
            Checks.illegal("need b", () -> x.lamps(0, 1, 0, 0, need, 0, 0, 0));
            Checks.illegal("need c", () -> x.lamps(0, 1, 0, 0, 0, need, 0, 0));
            Checks.illegal("need d", () -> x.lamps(0, 1, 0, 0, 0, 0, need, 0));
        }
        lampsAre("nothing was kept", x);
        Checks.is("edges", 20000 + 3500 - 20 - 30000, x.lamps(0, 1, 20000, 30000, -60000, 30000, -60000, 0));
        Checks.is("low edge", -60000 + 3500 - 20, x.lamps(0, 1, -60000, 0, 0, 0, 0, 36499));
    }

    private static void steps() {
        GlassThreads x = with("run 10;", "");
        lampsAre("at first", x);
        Checks.noSuch("colour 8", () -> x.steps(8));
        Checks.noSuch("colour -1", () -> x.steps(-1));
        x.lamps(0, 4, 0, 0, 0, 0, 0, 0);
        Checks.is("the fifth hasn't", NONE, x.steps(4));
        x.lamps(0, 2, 0, 0, 0, 0, 0, 0);
        Checks.is("the third hasn't any more", NONE, x.steps(2));
    }
}
