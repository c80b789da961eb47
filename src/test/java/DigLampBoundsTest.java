/**
 * Promises 22 to 25 at their bounds. Above each test stands the sentence of the document that it is
 * for; it asks on the bound, just below it and just above it.
 */
public final class DigLampBoundsTest {
    private static final int NONE = GlassThreads.NONE;
    private static final int NO_MARGIN = -1000000;
    private static final int LEAST = Integer.MIN_VALUE;
    private static final int MOST = Integer.MAX_VALUE;

    public static void main(String[] args) {
        cutDownAndUp();
        everyPlace();
        distances();
        slack();
        whats();
        spans();
        noSpan();
        otherEnd();
        howManyLamps();
        bases();
        needs();
        lampDays();
        disturbed();
        levelsOfSteps();
        theBest();
        nothingComes();
        stepsOfColours();
        Checks.end();
    }

    // "d times 1000 by 1000 and high, cut down, to d times 1000 by 1000 and low, cut up"
    private static void cutDownAndUp() {
        GlassThreads x = new GlassThreads();
        int[] d = {1099, 1100, 1101, 1, 0};
        int[] begin = {999, 1000, 1000, 0, 0};
        int[] end = {1000, 1000, 1001, 1, 0};
        for (int i = 0; i < d.length; i++) {
            Checks.is("beginning of " + d[i], begin[i], x.dig(d[i], 100, 100, 0));
            Checks.is("end of " + d[i], end[i], x.dig(d[i], 100, 100, 1));
            Checks.is("the low doesn't move the beginning", begin[i], x.dig(d[i], 0, 100, 0));
            Checks.is("the high doesn't move the end", end[i], x.dig(d[i], 100, 500, 1));
        }
        // 1000 000 is 999 times 1001 and 1, 1002 000 is 1001 times 1001 less 1
        Checks.is("just above a whole, cut down", 999, x.dig(1000, 1, 1, 0));
        Checks.is("just above a whole, cut up", 1000, x.dig(1000, 1, 1, 1));
        Checks.is("just below a whole, cut down", 1000, x.dig(1002, 1, 1, 0));
        Checks.is("just below a whole, cut up", 1001, x.dig(1002, 1, 1, 1));
    }

    private static void everyPlace() {
        GlassThreads x = new GlassThreads();
        int[] slacks = {0, 1, 2, 7, 99, 250, 499, 500};
        for (int d = 0; d < 100000; d += d < 40 ? 1 : 997) {
            for (int slack : slacks) {
                long glass = 1000L + slack;
                long begin = x.dig(d, 0, slack, 0);
                long end = x.dig(d, slack, 500, 1);
                boolean down = begin * glass <= 1000L * d && 1000L * d < (begin + 1) * glass;
                boolean up = end * glass >= 1000L * d && 1000L * d > (end - 1) * glass;
                Checks.is("cut down of " + d + " by " + glass, true, down);
                Checks.is("cut up of " + d + " by " + glass, true, up);
            }
        }
    }

    // "d is not 0 to 99999"; "also e, g are not 0 to 99999"
    private static void distances() {
        GlassThreads x = new GlassThreads();
        int[] good = {0, 1, 99998, 99999};
        for (int d : good) {
            Checks.is("dig " + d, d, x.dig(d, 0, 0, 0));
            Checks.is("both, d " + d, d, x.both(d, 99999 - d, 99999, 0, 0, 0));
            Checks.is("both, e " + d, 99999 - d, x.both(99999 - d, d, 99999, 0, 0, 1));
            Checks.is("both, g " + d, d, x.both(d, 0, d, 0, 0, 1));
        }
        int[] bad = {-1, 100000, LEAST, MOST};
        for (int d : bad) {
            for (int what = -1; what <= 2; what++) {
                int w = what;
                Checks.illegal("dig " + d, () -> x.dig(d, 0, 0, w));
                Checks.illegal("both, d " + d, () -> x.both(d, 0, 0, 0, 0, w));
                Checks.illegal("both, e " + d, () -> x.both(0, d, 0, 0, 0, w));
                Checks.illegal("both, g " + d, () -> x.both(0, 0, d, 0, 0, w));
            }
        }
    }

    // "low, high are not 0 to 500, or low is above high"
    private static void slack() {
        GlassThreads x = new GlassThreads();
        int[][] good = {{0, 0}, {0, 1}, {1, 1}, {0, 500}, {499, 500}, {500, 500}};
        for (int[] s : good) {
            Checks.is("slack " + s[0] + " to " + s[1], 0, x.dig(0, s[0], s[1], 0));
            Checks.is("both, slack " + s[0] + " to " + s[1], 0, x.both(0, 0, 0, s[0], s[1], 1));
        }
        int[][] bad = {{-1, 0}, {-1, -1}, {-1, 500}, {0, 501}, {500, 501}, {501, 501}, {1, 0}, {500, 499}, {0, -1},
            {LEAST, 0}, {0, MOST}, {MOST, MOST}, {LEAST, LEAST}};
        for (int[] s : bad) {
            for (int what = -1; what <= 2; what++) {
                int w = what;
                Checks.illegal("slack " + s[0] + " to " + s[1], () -> x.dig(0, s[0], s[1], w));
                Checks.illegal("both, slack " + s[0] + " to " + s[1], () -> x.both(0, 0, 0, s[0], s[1], w));
            }
        }
    }

    // "NoSuchElementException (behind that): another what."; "NoSuchElementException likewise."
    private static void whats() {
        GlassThreads x = new GlassThreads();
        int[] bad = {-1, 2, LEAST, MOST};
        for (int what : bad) {
            Checks.noSuch("dig, what " + what, () -> x.dig(0, 0, 0, what));
            Checks.noSuch("both, what " + what, () -> x.both(0, 0, 0, 0, 0, what));
            Checks.noSuch("both, what " + what + " where there is no span", () -> x.both(9, 0, 0, 0, 0, what));
        }
    }

    // "the greater beginning and the lesser end"
    private static void spans() {
        GlassThreads x = new GlassThreads();
        // d 1100: from 1000 to 1100; e 1100: from g - 1100 to g - 1000
        int[] g = {1999, 2000, 2001, 2099, 2100, 2101, 2199, 2200, 2201};
        int[] begin = {NONE, 1000, 1000, 1000, 1000, 1001, 1099, 1100, NONE};
        int[] end = {NONE, 1000, 1001, 1099, 1100, 1100, 1100, 1100, NONE};
        for (int i = 0; i < g.length; i++) {
            Checks.is("beginning, ground " + g[i], begin[i], x.both(1100, 1100, g[i], 0, 100, 0));
            Checks.is("end, ground " + g[i], end[i], x.both(1100, 1100, g[i], 0, 100, 1));
        }
    }

    // "NONE: it is none (its beginning is above its end)"
    private static void noSpan() {
        GlassThreads x = new GlassThreads();
        for (int what = 0; what <= 1; what++) {
            Checks.is("one place", 500, x.both(500, 500, 1000, 0, 0, what));
            Checks.is("too far from the end", NONE, x.both(500, 501, 1000, 0, 0, what));
            Checks.is("too near to the end", NONE, x.both(500, 499, 1000, 0, 0, what));
            Checks.is("behind the beginning of the ground", NONE, x.both(0, 1, 0, 0, 0, what));
            Checks.is("at the beginning of the ground", 0, x.both(0, 0, 0, 0, 0, what));
        }
    }

    // "from the other end, with a distance e, ground g long in all: g less those"
    private static void otherEnd() {
        GlassThreads x = new GlassThreads();
        // d 3000 alone is from 2000 to 3000, so e tells both ends
        int[] e = {1000, 1001, 1002, 1003};
        int[] begin = {2500, 2499, 2498, 2497};
        int[] end = {2834, 2833, 2832, 2832};
        for (int i = 0; i < 4; i++) {
            // g 3500: e 1000 is from 3500 - 1000 to 3500 - 666
            Checks.is("beginning by e " + e[i], begin[i], x.both(3000, e[i], 3500, 0, 500, 0));
            Checks.is("end by e " + e[i], end[i], x.both(3000, e[i], 3500, 0, 500, 1));
        }
        // cut up for the beginning, cut down for the end: e 1000 by 1.001 is a little above 999
        Checks.is("g less the cut up", 2500, x.both(3000, 1000, 3500, 1, 500, 0));
        Checks.is("g less the cut down", 2501, x.both(2501, 1000, 3500, 0, 1, 1));
    }

    private static GlassThreads with(String thread, String law) {
        GlassThreads x = new GlassThreads();
        Checks.is("thread", 0, Checks.thread(x, thread, 0));
        Checks.is("law", 0, Checks.law(x, law));
        return x;
    }

    private static void stepsAre(String what, GlassThreads x, int... due) {
        for (int colour = 0; colour < 8; colour++) {
            Checks.is(what + ", steps of " + colour, colour < due.length ? due[colour] : NONE, x.steps(colour));
        }
    }

    // "colours 0 to n - 1 (n 1 to 4)"; "n is not 1 to 4"
    private static void howManyLamps() {
        GlassThreads x = with("run 10;", "run 10*colour;");
        stepsAre("none yet", x);
        int[] bad = {-1, 0, 5, LEAST, MOST};
        for (int n : bad) {
            Checks.illegal("n " + n, () -> x.lamps(0, n, 0, 0, 0, 0, 0, 0));
            Checks.noSuch("thread ahead of n " + n, () -> x.lamps(1, n, 0, 0, 0, 0, 0, 0));
            Checks.noSuch("day ahead of n " + n, () -> x.lamps(0, n, 0, 0, 0, 0, 0, 36500));
        }
        stepsAre("nothing was kept", x);
        Checks.is("one", 3500, x.lamps(0, 1, 0, 0, 0, 0, 0, 0));
        stepsAre("one", x, 7);
        Checks.is("two", 3500 - 10 - 700, x.lamps(0, 2, 0, 0, 0, 0, 0, 0));
        stepsAre("two", x, 7, 7);
        // three: the middle one has 3500 - 10 - 1400, the others 3500 - 700 - 350 and 20 less
        Checks.is("three", 2090, x.lamps(0, 3, 0, 0, 0, 0, 0, 0));
        stepsAre("three: the outer ones go no lower", x, 7, 7, 7);
        // four: 3500 - 10 - 700 - 700 - 350 of the second, 10 less of the third
        Checks.is("four", 3500 - 20 - 1750, x.lamps(0, 4, 0, 0, 0, 0, 0, 0));
        stepsAre("four", x, 7, 7, 7, 7);
        Checks.illegal("n 5", () -> x.lamps(0, 5, 0, 0, 0, 0, 0, 0));
        stepsAre("what was kept stays", x, 7, 7, 7, 7);
    }

    // "the base not -60000 to 20000"
    private static void bases() {
        GlassThreads x = with("run 10;", "");
        int[] good = {-60000, -59999, 19999, 20000};
        for (int base : good) {
            Checks.is("base " + base, base + 3480, x.lamps(0, 1, base, 0, 0, 0, 0, 0));
        }
        int[] bad = {-60001, 20001, 30000, LEAST, MOST};
        for (int base : bad) {
            Checks.illegal("base " + base, () -> x.lamps(0, 1, base, 0, 0, 0, 0, 0));
            Checks.noSuch("thread ahead of base " + base, () -> x.lamps(-1, 1, base, 0, 0, 0, 0, 0));
        }
        stepsAre("what was kept stays", x, 7);
    }

    // "a need (of all four) not -60000 to 30000"; "needs: of colour c the c-th of the four"
    private static void needs() {
        GlassThreads x = with("run 10;", "");
        int[] good = {-60000, -59999, 29999, 30000};
        for (int need : good) {
            Checks.is("need of colour 0", 3480 - need, x.lamps(0, 1, 0, need, 0, 0, 0, 0));
            for (int i = 0; i < 4; i++) {
                int[] all = {-60000, -60000, -60000, -60000};
                all[i] = need;
                // where its need is the greatest by far, the others stay dark
                int got = x.lamps(0, 4, 0, all[0], all[1], all[2], all[3], 0);
                if (need > 0) {
                    Checks.is("need of colour " + i, 3480 - need, got);
                    int[] due = new int[4];
                    due[i] = 7;
                    stepsAre("need of colour " + i, x, due);
                }
                Checks.is("needs of others don't count", i == 0 ? 3480 - need : 63480,
                        x.lamps(0, 1, 0, all[0], all[1], all[2], all[3], 0));
            }
        }
        int[] bad = {-60001, 30001, LEAST, MOST};
        for (int need : bad) {
            for (int n = 1; n <= 4; n++) {
                int many = n;
                Checks.illegal("need a of " + need, () -> x.lamps(0, many, 0, need, 0, 0, 0, 0));
                Checks.illegal("need b of " + need, () -> x.lamps(0, many, 0, 0, need, 0, 0, 0));
                Checks.illegal("need c of " + need, () -> x.lamps(0, many, 0, 0, 0, need, 0, 0));
                Checks.illegal("need d of " + need, () -> x.lamps(0, many, 0, 0, 0, 0, need, 0));
            }
        }
    }

    // "no such THREAD .. DAY (as everywhere)"; "as known TONIGHT"
    private static void lampDays() {
        GlassThreads x = with("run 10;", "run 10+age;");
        int[] days = {-1, 36500, LEAST, MOST};
        for (int day : days) {
            Checks.noSuch("day " + day, () -> x.lamps(0, 1, 0, 0, 0, 0, 0, day));
            Checks.noSuch("day " + day + " ahead of the need", () -> x.lamps(0, 1, 0, 30001, 0, 0, 0, day));
        }
        int[] threads = {-1, 1, LEAST, MOST};
        for (int thread : threads) {
            Checks.noSuch("thread " + thread, () -> x.lamps(thread, 1, 0, 0, 0, 0, 0, 0));
        }
        Checks.is("first day", 3490, x.lamps(0, 1, 0, 0, 0, 0, 0, 0));
        Checks.is("last day", 3490 - 99, x.lamps(0, 1, 0, 0, 0, 0, 0, 36499));
        x.evenings(1);
        x.event(0, 0, 0, 1000, 0);
        Checks.is("told tonight", 2490, x.lamps(0, 1, 0, 0, 0, 0, 0, 0));
        x.evenings(1);
        x.back(0);
        Checks.is("taken back tonight", 3490, x.lamps(0, 1, 0, 0, 0, 0, 0, 0));
    }

    // "steps of that one times 100, by how far the two colours are apart, cut down"
    private static void disturbed() {
        GlassThreads x = with("run 10;", "run 0;");
        int dark = -60000;
        // the first is at 3500 less its need of 3500; the last needs one step so as not to be the least one
        Checks.is("one apart", -100, x.lamps(0, 2, 0, 3500, -300, dark, dark, 0));
        stepsAre("one apart", x, 7, 1);
        Checks.is("two apart", -50, x.lamps(0, 3, 0, 3500, dark, 0, dark, 0));
        stepsAre("two apart", x, 7, 0, 1);
        Checks.is("three apart: 33, not 34", -33, x.lamps(0, 4, 0, 3500, dark, dark, 0, 0));
        stepsAre("three apart", x, 7, 0, 0, 1);
        Checks.is("two steps, three apart: 66, not 67", -66, x.lamps(0, 4, 0, 3500, dark, dark, 500, 0));
        stepsAre("two steps, three apart", x, 7, 0, 0, 2);
        Checks.is("three steps, three apart: 100", -100, x.lamps(0, 4, 0, 3500, dark, dark, 1000, 0));
        stepsAre("three steps, three apart", x, 7, 0, 0, 3);
        Checks.is("from the other side", -33, x.lamps(0, 4, 0, 0, dark, dark, 3500, 0));
        stepsAre("from the other side", x, 1, 0, 0, 7);
    }

    // "each sent at a level of 0 to 7 steps of 500 above a base"
    private static void levelsOfSteps() {
        GlassThreads x = with("amp 40000 1000;", "noise 0;");
        // no more steps than lift it above the amp's most: 1000 is reached from any level
        int[] bases = {-40001, -39501, -39001, -36001, -60000, 999, -2499, -2500, -2501};
        for (int base : bases) {
            int level = base + 3500 > 1000 ? base + 3500 : Math.min(1000, base + 43500);
            int steps = 0;
            for (int s = 7; s >= 0; s--) {
                int sent = base + 500 * s;
                int got = sent > 1000 ? sent : Math.min(1000, sent + 40000);
                steps = got == level ? s : steps;
            }
            Checks.is("from " + base, level, x.lamps(0, 1, base, 0, 0, 0, 0, 0));
            stepsAre("from " + base, x, steps);
        }
    }

    // "THE BEST: the greatest least MARGIN .., of like ones the fewest steps in all, of like ones the first as a row"
    private static void theBest() {
        GlassThreads x = with("amp 40000 1000;", "noise 0;");
        Checks.is("all alike: dark", 1000, x.lamps(0, 4, -2500, 0, 0, 0, 0, 0));
        stepsAre("all alike", x, 0, 0, 0, 0);
        Checks.is("noise of each colour", 993, with("amp 40000 1000;", "noise 7*(colour=2);")
                .lamps(0, 3, -2500, 0, 0, 0, 0, 0));
        // by seven steps 1001 is reached, which is above the amp's most already, but disturbs by 700
        Checks.is("one is a little brighter", 1000, x.lamps(0, 2, -2499, 0, 0, 0, 0, 0));
        stepsAre("not worth its steps", x, 0, 0);
        Checks.is("alone it is", 1001, x.lamps(0, 1, -2499, 0, 0, 0, 0, 0));
        stepsAre("alone", x, 7);
        Checks.is("alone, just not brighter", 1000, x.lamps(0, 1, -2500, 0, 0, 0, 0, 0));
        stepsAre("alone, just not brighter", x, 0);
    }

    // "-1000000 (what was kept stays): nothing comes"
    private static void nothingComes() {
        GlassThreads x = with("run 10; splice;", "");
        x.event(1, 0, 0, 10, 5);
        Checks.is("nothing comes", NO_MARGIN, x.lamps(0, 4, 0, 0, 0, 0, 0, 5));
        stepsAre("nothing was kept", x);
        Checks.is("the day ahead", 3430 - 700, x.lamps(0, 2, 0, 0, 0, 0, 0, 4));
        Checks.is("nothing comes on the day", NO_MARGIN, x.lamps(0, 1, 0, 0, 0, 0, 0, 5));
        Checks.is("nothing comes behind it", NO_MARGIN, x.lamps(0, 4, 0, 0, 0, 0, 0, 6));
        stepsAre("what was kept stays", x, 7, 7);
        Checks.illegal("a need even so", () -> x.lamps(0, 1, 0, 0, 0, 0, 30001, 5));
        x.event(3, 0, 0, 0, 6);
        Checks.is("mended", 3430, x.lamps(0, 1, 0, 0, 0, 0, 0, 6));
        stepsAre("one", x, 7);
    }

    // "Steps of a colour by what is kept; NONE: it hasn't."; "no such colour (as everywhere)"
    private static void stepsOfColours() {
        GlassThreads x = with("run 10;", "");
        int[] bad = {-1, 8, LEAST, MOST};
        for (int n = 0; n <= 4; n++) {
            if (n > 0) {
                x.lamps(0, n, 0, 0, 0, 0, 0, 0);
            }
            for (int colour = 0; colour < 8; colour++) {
                Checks.is("colour " + colour + " of " + n, colour < n, x.steps(colour) != NONE);
            }
            for (int colour : bad) {
                Checks.noSuch("colour " + colour + " of " + n, () -> x.steps(colour));
            }
        }
    }
}
