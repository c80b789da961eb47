/**
 * Promises 26 to 34 at their bounds. Above each test stands the sentence of the document that it is
 * for; it asks on the bound, just below it and just above it.
 */
public final class NetBoundsTest {
    private static final int NONE = GlassThreads.NONE;
    private static final int LEAST = Integer.MIN_VALUE;
    private static final int MOST = Integer.MAX_VALUE;
    private static final int[] NO_NODES = {-1, 8, LEAST, MOST};

    public static void main(String[] args) {
        nodes();
        howManyCables();
        coloursOfACable();
        threadsOfACable();
        howManyTasks();
        costs();
        longestWay();
        noNodeTwice();
        leastCost();
        fewestCables();
        firstAsARow();
        waysKept();
        cablesAlong();
        pairsTogether();
        likePairs();
        noPair();
        dealtToNone();
        coloursEnough();
        coloursOfAWay();
        fewestColours();
        coloursKept();
        coloursOfTasks();
        bitsOfCables();
        lostOrNot();
        howManyAreCut();
        worstSets();
        Checks.end();
    }

    /** Threads 0 to 7 of lengths 5, 10, .. 40: costs of 10, 20, .. 80. */
    private static GlassThreads withThreads() {
        GlassThreads x = new GlassThreads();
        for (int i = 1; i <= 8; i++) {
            Checks.thread(x, "run " + 5 * i + ";", 0);
        }
        return x;
    }

    /** Cables as rows of node, node, cost by tens; each has 8 colours. */
    private static GlassThreads net(int... cables) {
        GlassThreads x = withThreads();
        for (int i = 0; i < cables.length; i += 3) {
            Checks.is("cable", i / 3, x.cable(cables[i], cables[i + 1], cables[i + 2] - 1, 8));
        }
        return x;
    }

    private static void kept(String what, GlassThreads x, int... due) {
        Checks.is(what + ": how many", due.length, x.along(NONE));
        for (int i = 0; i < due.length; i++) {
            Checks.is(what + ", " + i, due[i], x.along(i));
        }
        Checks.noSuch(what + ": no more", () -> x.along(due.length));
    }

    private static void dealtIs(String what, GlassThreads x, int... due) {
        for (int i = 0; i < due.length; i++) {
            Checks.is(what + ", task " + i, due[i], x.dealt(i));
        }
    }

    // "NODES 0 to 7"; "no such NODE (as everywhere)"; "two unlike NODES"
    private static void nodes() {
        GlassThreads x = withThreads();
        for (int bad : NO_NODES) {
            for (int good = 0; good <= 7; good += 7) {
                int node = good;
                Checks.noSuch("cable from " + bad, () -> x.cable(bad, node, 0, 1));
                Checks.noSuch("cable to " + bad, () -> x.cable(node, bad, 0, 1));
                Checks.noSuch("cable from " + bad + " ahead of its colours", () -> x.cable(bad, node, 0, 0));
                Checks.noSuch("task from " + bad, () -> x.task(bad, node));
                Checks.noSuch("task to " + bad, () -> x.task(node, bad));
                Checks.noSuch("way from " + bad, () -> x.way(bad, node));
                Checks.noSuch("way to " + bad, () -> x.way(node, bad));
                Checks.noSuch("pair from " + bad, () -> x.pair(bad, node));
                Checks.noSuch("pair to " + bad, () -> x.pair(node, bad));
            }
            Checks.noSuch("cable of one node, " + bad, () -> x.cable(bad, bad, 0, 1));
            Checks.noSuch("task of one node, " + bad, () -> x.task(bad, bad));
            Checks.noSuch("way of one node, " + bad, () -> x.way(bad, bad));
            Checks.noSuch("pair of one node, " + bad, () -> x.pair(bad, bad));
        }
        for (int node = 0; node < 8; node++) {
            Checks.is("cable of one node", NONE, x.cable(node, node, 0, 1));
            Checks.is("task of one node", NONE, x.task(node, node));
            Checks.is("way of one node", 0, x.way(node, node));
            Checks.is("pair of one node", NONE, x.pair(node, node));
        }
        Checks.is("no cable", 0, x.count(3));
        Checks.is("no task", 0, x.count(4));
        Checks.is("cable", 0, x.cable(0, 7, 0, 1));
        Checks.is("task", 0, x.task(7, 0));
        Checks.is("way", 10, x.way(0, 7));
        Checks.is("way back", 10, x.way(7, 0));
        Checks.is("cable of one node all the same", NONE, x.cable(7, 7, 0, 1));
        Checks.is("pair of one node all the same", NONE, x.pair(7, 7));
    }

    // "CABLES, from 0 on, at most 10"; "NONE: there are 10"
    private static void howManyCables() {
        GlassThreads x = withThreads();
        for (int i = 0; i < 10; i++) {
            Checks.is("cable " + i, i, x.cable(i % 7, 7, 0, 1));
            Checks.is("how many", i + 1, x.count(3));
        }
        Checks.is("an eleventh one", NONE, x.cable(0, 1, 0, 1));
        Checks.is("ten", 10, x.count(3));
        Checks.is("it isn't there", 20, x.way(0, 1));
        Checks.noSuch("no such thread even then", () -> x.cable(0, 1, 8, 1));
        x.task(2, 7);
        Checks.is("the tenth is there", 0b1000000100, x.worst(2));
    }

    // "how many colours it has (1 to 8)"; "colours are not as told"
    private static void coloursOfACable() {
        GlassThreads x = withThreads();
        int[] bad = {-1, 0, 9, LEAST, MOST};
        for (int colours : bad) {
            Checks.is(colours + " colours", NONE, x.cable(0, 1, 0, colours));
            Checks.noSuch("no such thread ahead of " + colours + " colours", () -> x.cable(0, 1, 8, colours));
        }
        Checks.is("none", 0, x.count(3));
        int[] good = {1, 2, 7, 8};
        for (int i = 0; i < 4; i++) {
            Checks.is(good[i] + " colours", i, x.cable(0, 1, 0, good[i]));
        }
    }

    // "no such NODE (as everywhere), THREAD"
    private static void threadsOfACable() {
        GlassThreads x = new GlassThreads();
        Checks.noSuch("no thread at all", () -> x.cable(0, 1, 0, 1));
        Checks.thread(x, "run 5;", 0);
        int[] bad = {-1, 1, LEAST, MOST};
        for (int thread : bad) {
            Checks.noSuch("thread " + thread, () -> x.cable(0, 1, thread, 1));
            Checks.noSuch("thread " + thread + " of one node", () -> x.cable(1, 1, thread, 1));
        }
        Checks.is("thread 0", 0, x.cable(0, 1, 0, 1));
        Checks.thread(x, "run 6;", 0);
        Checks.is("thread 1", 1, x.cable(0, 1, 1, 1));
        Checks.noSuch("thread 2", () -> x.cable(0, 1, 2, 1));
    }

    // "TASKS, from 0 on, at most 6"; "NONE: there are 6, or both are one"
    private static void howManyTasks() {
        GlassThreads x = new GlassThreads();
        for (int i = 0; i < 6; i++) {
            Checks.is("task " + i, i, x.task(i, i + 1));
            Checks.is("how many", i + 1, x.count(4));
        }
        Checks.is("a seventh one", NONE, x.task(0, 1));
        Checks.is("six", 6, x.count(4));
        Checks.is("of one node", NONE, x.task(0, 0));
        Checks.noSuch("no such node even then", () -> x.task(8, 0));
        Checks.noSuch("it isn't there", () -> x.dealt(6));
    }

    // "LOSSES of all PARTS of its THREAD of colour 0 at age 0 (AMPS: 0), at least 1"
    private static void costs() {
        GlassThreads x = new GlassThreads();
        Checks.thread(x, "splice; amp 9 9;", 50);
        Checks.thread(x, "amp 9 9;", 0);
        x.cable(0, 1, 0, 1);
        x.cable(1, 2, 1, 1);
        Checks.is("of an amp alone", 1, x.way(1, 2));
        for (int loss = 0; loss <= 3; loss++) {
            Checks.law(x, "splice " + loss + "+age+colour; noise 99;");
            Checks.is("losses of " + loss, Math.max(1, loss), x.way(0, 1));
            Checks.is("both", Math.max(1, loss) + 1, x.way(0, 2));
        }
        GlassThreads y = new GlassThreads();
        Checks.thread(y, "splice;".repeat(24), 0);
        for (int i = 0; i < 7; i++) {
            y.cable(i, i + 1, 0, 1);
        }
        Checks.law(y, "splice 99999;");
        Checks.is("the dearest way", 7 * 24 * 99999, y.way(0, 7));
        Checks.law(y, "splice 0;");
        Checks.is("each at least 1", 7, y.way(0, 7));
    }

    // NODES 0 to 7: a WAY has seven CABLES at most
    private static void longestWay() {
        GlassThreads x = net(0, 1, 1, 1, 2, 1, 2, 3, 1, 3, 4, 1, 4, 5, 1, 5, 6, 1, 6, 7, 1, 7, 0, 8);
        Checks.is("seven cables", 70, x.way(0, 7));
        kept("seven cables", x, 0, 1, 2, 3, 4, 5, 6);
        Checks.is("back", 70, x.way(7, 0));
        kept("back", x, 6, 5, 4, 3, 2, 1, 0);
        Checks.is("the ring's other side is the other way", 150, x.pair(0, 7));
        kept("eight cables in all", x, 0, 1, 2, 3, 4, 5, 6, 7);
        Checks.is("from within", 70 + 80, x.pair(3, 4));
        kept("one and seven", x, 3, 2, 1, 0, 7, 6, 5, 4);
    }

    // "A WAY goes along CABLES (both ways), by no NODE twice"
    private static void noNodeTwice() {
        // a way from 0 to 2 and another one back to 2 would need node 1 twice
        GlassThreads x = net(0, 1, 1, 1, 2, 1, 1, 3, 1, 3, 4, 1, 4, 1, 1);
        Checks.is("to 2", 20, x.way(0, 2));
        kept("to 2", x, 0, 1);
        Checks.is("the round of 1, 3, 4 is no second way", NONE, x.pair(0, 2));
        Checks.is("within the round there are two", 30, x.pair(1, 3));
        kept("within the round", x, 2, 4, 3);
        Checks.is("cables go both ways", 20, x.way(2, 0));
        kept("back", x, 1, 0);
    }

    // "LEAST: least COST"
    private static void leastCost() {
        int[] cost = {29, 30, 31};
        for (int direct : cost) {
            GlassThreads x = new GlassThreads();
            Checks.thread(x, "run 1;", 0);
            Checks.thread(x, "splice;", 0);
            x.cable(0, 1, 1, 1);
            x.cable(0, 2, 0, 1);
            x.cable(2, 1, 0, 1);
            Checks.law(x, "run 15; splice " + direct + ";");
            Checks.is("direct at " + direct, Math.min(30, direct), x.way(0, 1));
            if (direct <= 30) {
                kept("direct", x, 0);
            } else {
                kept("round", x, 1, 2);
            }
        }
    }

    // "of like ones fewest CABLES"
    private static void fewestCables() {
        GlassThreads x = net(0, 1, 1, 1, 2, 1, 2, 3, 1, 0, 4, 1, 4, 3, 2, 0, 3, 4, 3, 0, 3);
        Checks.is("three of like cost, one cheaper", 30, x.way(0, 3));
        kept("one cable of 30", x, 6);
        GlassThreads y = net(0, 1, 1, 1, 2, 1, 2, 3, 1, 0, 4, 1, 4, 3, 2);
        Checks.is("two of like cost", 30, y.way(0, 3));
        kept("two cables, though not the first as a row", y, 3, 4);
        Checks.is("back", 30, y.way(3, 0));
        kept("back", y, 4, 3);
    }

    // "of like ones the first as a row"
    private static void firstAsARow() {
        GlassThreads x = net(2, 3, 1, 0, 2, 1, 0, 1, 1, 1, 3, 1, 1, 3, 1, 0, 1, 1);
        Checks.is("from 0", 20, x.way(0, 3));
        kept("1, 0 is ahead of 2, 3", x, 1, 0);
        Checks.is("from 3", 20, x.way(3, 0));
        kept("0, 1 is ahead of 3, 2", x, 0, 1);
        Checks.is("like cables", 10, x.way(0, 1));
        kept("the first of like cables", x, 2);
        Checks.is("like cables back", 10, x.way(3, 1));
        kept("the first of like cables back", x, 3);
    }

    // "NONE (what was kept stays): there is none"; "(0 if they are one); it is kept"
    private static void waysKept() {
        GlassThreads x = net(0, 1, 1, 1, 2, 2, 4, 5, 3);
        Checks.is("no way from the first", NONE, x.way(0, 4));
        kept("nothing yet", x);
        Checks.is("a way", 30, x.way(0, 2));
        x.task(4, 5);
        Checks.is("dealt along another way", 1, x.deal());
        Checks.is("lost along another way", 1, x.lost(4));
        Checks.is("worst of one", 4, x.worst(1));
        Checks.is("no way", NONE, x.way(0, 5));
        kept("it stays", x, 0, 1);
        Checks.is("no pair", NONE, x.pair(4, 5));
        kept("it stays still", x, 0, 1);
        Checks.is("no pair of one node", NONE, x.pair(4, 4));
        kept("even then", x, 0, 1);
        Checks.noSuch("no such node", () -> x.way(0, 8));
        Checks.noSuch("no such node of a pair", () -> x.pair(0, 8));
        kept("and then, too", x, 0, 1);
        Checks.is("of one node", 0, x.way(6, 6));
        kept("an empty way is kept", x);
        Checks.is("no way", NONE, x.way(6, 0));
        kept("the empty one stays", x);
    }

    // "The i-th CABLE of what is kept; i NONE: how many. NoSuchElementException: there is none."
    private static void cablesAlong() {
        GlassThreads x = net(0, 1, 1, 0, 1, 2, 1, 2, 1, 1, 2, 2);
        int[] bad = {-2, LEAST, MOST};
        for (int round = 0; round < 3; round++) {
            int[][] due = {{}, {0, 2}, {0, 2, 1, 3}};
            if (round > 0) {
                Checks.is("what is kept", round == 1 ? 20 : 60, round == 1 ? x.way(0, 2) : x.pair(0, 2));
            }
            kept("round " + round, x, due[round]);
            for (int i : bad) {
                Checks.noSuch("the " + i + "-th", () -> x.along(i));
            }
            Checks.noSuch("one further", () -> x.along(x.along(NONE) + 1));
        }
        x.way(0, 1);
        kept("the second way is gone", x, 0);
    }

    // "two WAYS that share no CABLE, of least COST together"
    private static void pairsTogether() {
        // the least way (0, 1, 2 at 30) and the cable beside it come to more than two ways round
        int[] beside = {6, 7, 8};
        for (int cost : beside) {
            GlassThreads x = net(0, 1, 1, 1, 2, 1, 2, 3, 1, 0, 2, 4, 1, 3, 4, 0, 3, cost);
            Checks.is("beside at " + 10 * cost, cost == 6 ? 90 : 100, x.pair(0, 3));
            if (cost == 8) {
                kept("two ways round", x, 0, 4, 3, 2);
            } else {
                kept("of like ones the least way first", x, 0, 1, 2, 5);
            }
        }
    }

    // "of like ones the first one first as LEAST, then the other"
    private static void likePairs() {
        GlassThreads x = net(0, 1, 2, 0, 1, 1, 0, 1, 1, 0, 1, 2);
        Checks.is("the two cheapest", 20, x.pair(0, 1));
        kept("the two cheapest", x, 1, 2);
        GlassThreads y = net(0, 1, 2, 0, 1, 1, 0, 1, 2, 0, 1, 2);
        Checks.is("one cheap one", 30, y.pair(0, 1));
        kept("the cheap one first, the first of the others", y, 1, 0);
        GlassThreads z = net(0, 2, 1, 2, 1, 1, 0, 1, 2, 0, 1, 2, 0, 3, 1, 3, 1, 1);
        Checks.is("all of them at 20", 40, z.pair(0, 1));
        kept("fewest cables first", z, 2, 3);
        GlassThreads w = net(0, 2, 1, 2, 1, 1, 0, 1, 2, 0, 3, 1, 3, 1, 1);
        Checks.is("one cable and two", 40, w.pair(0, 1));
        kept("one cable, then the first as a row", w, 2, 0, 1);
    }

    // "NONE (what was kept stays): there is none, or the NODES are one"
    private static void noPair() {
        GlassThreads x = net(0, 1, 1, 0, 1, 1, 1, 2, 1);
        Checks.is("no pair from the first", NONE, x.pair(0, 2));
        kept("nothing yet", x);
        Checks.is("a pair", 20, x.pair(0, 1));
        Checks.is("one cable for both", NONE, x.pair(0, 2));
        Checks.is("no way at all", NONE, x.pair(0, 3));
        Checks.is("one node", NONE, x.pair(0, 0));
        kept("it stays", x, 0, 1);
        Checks.is("the fourth cable", 3, x.cable(2, 1, 0, 8));
        Checks.is("a pair then", 40, x.pair(0, 2));
        kept("by node 1 both", x, 0, 2, 1, 3);
    }

    // "DEALT: each TASK on its LEAST WAY"; "NONE: it can't be, or a TASK has no WAY"
    private static void dealtToNone() {
        GlassThreads x = net(0, 1, 1);
        Checks.is("no task", 0, x.deal());
        Checks.noSuch("task 0", () -> x.dealt(0));
        x.task(0, 2);
        Checks.is("a task without a way", NONE, x.deal());
        dealtIs("it has none", x, NONE);
        x.cable(1, 2, 0, 8);
        Checks.is("a way", 1, x.deal());
        dealtIs("a way", x, 0);
        x.task(2, 3);
        Checks.is("another task without a way", NONE, x.deal());
        dealtIs("it stays", x, 0, NONE);
    }

    // "each less than all its CABLES have"
    private static void coloursEnough() {
        for (int colours = 1; colours <= 8; colours++) {
            GlassThreads x = withThreads();
            x.cable(0, 1, 0, colours);
            for (int tasks = 1; tasks <= 6; tasks++) {
                x.task(tasks % 2, 1 - tasks % 2);
                boolean fine = tasks <= colours;
                Checks.is(tasks + " tasks, " + colours + " colours", fine ? tasks : NONE, x.deal());
                for (int i = 0; i < tasks; i++) {
                    boolean has = i < colours && (fine || i < tasks);
                    Checks.is("task " + i, has ? i : NONE, x.dealt(i));
                }
            }
        }
    }

    private static void coloursOfAWay() {
        for (int colours = 1; colours <= 3; colours++) {
            GlassThreads x = withThreads();
            x.cable(0, 1, 0, 8);
            x.cable(1, 2, 0, colours);
            x.cable(2, 3, 0, 8);
            x.task(0, 1);
            x.task(2, 3);
            x.task(1, 0);
            x.task(0, 3);
            // three tasks share cable 0; the last one of them is held by cable 1, too
            Checks.is("by a cable of " + colours, 3, x.deal());
            int[][] due = {{1, 1, 2, 0}, {0, 0, 2, 1}, {0, 0, 1, 2}};
            dealtIs("by a cable of " + colours, x, due[colours - 1]);
        }
    }

    // "fewest colours (the greatest and 1), of like ones the first as a row by TASKS"
    private static void fewestColours() {
        GlassThreads x = withThreads();
        x.cable(0, 1, 0, 8);
        x.cable(1, 2, 0, 8);
        x.cable(2, 3, 0, 8);
        x.task(0, 1);
        x.task(2, 3);
        Checks.is("they share none: one colour", 1, x.deal());
        dealtIs("one colour", x, 0, 0);
        x.task(1, 3);
        Checks.is("the third shares one", 2, x.deal());
        dealtIs("two colours", x, 0, 0, 1);
        x.task(0, 2);
        // the first row of all, 0 0 1 2, has three
        Checks.is("the fourth shares two, but two colours do", 2, x.deal());
        dealtIs("two colours by another row", x, 0, 1, 0, 1);
        GlassThreads y = withThreads();
        y.cable(0, 1, 0, 8);
        y.cable(1, 2, 0, 8);
        y.cable(2, 3, 0, 8);
        y.task(0, 1);
        y.task(2, 3);
        y.task(1, 2);
        y.task(0, 2);
        Checks.is("the last shares two", 2, y.deal());
        dealtIs("the first of two colours", y, 0, 0, 0, 1);
        GlassThreads z = withThreads();
        z.cable(0, 1, 0, 2);
        z.cable(1, 2, 0, 1);
        z.task(0, 1);
        z.task(0, 2);
        Checks.is("the first row can't be", 2, z.deal());
        dealtIs("the second one", z, 1, 0);
    }

    // "they are kept. NONE (what was kept stays)"
    private static void coloursKept() {
        GlassThreads x = withThreads();
        x.cable(0, 1, 0, 2);
        x.task(0, 1);
        dealtIs("not dealt yet", x, NONE);
        x.task(1, 0);
        Checks.is("two", 2, x.deal());
        x.task(0, 1);
        dealtIs("a new task has none", x, 0, 1, NONE);
        Checks.is("three are too many", NONE, x.deal());
        dealtIs("what was kept stays", x, 0, 1, NONE);
        x.cable(0, 1, 1, 8);
        Checks.is("a dearer cable isn't on their way", NONE, x.deal());
        Checks.law(x, "run 100-length;");
        Checks.is("by another law it is", 3, x.deal());
        dealtIs("three", x, 0, 1, 2);
    }

    // "NONE: it hasn't. NoSuchElementException: no such TASK."
    private static void coloursOfTasks() {
        GlassThreads x = net(0, 1, 1);
        int[] bad = {-1, 0, LEAST, MOST};
        for (int task : bad) {
            Checks.noSuch("task " + task + " of none", () -> x.dealt(task));
        }
        for (int i = 0; i < 6; i++) {
            x.task(0, 1);
            int task = i;
            Checks.is("task " + i, NONE, x.dealt(i));
            Checks.noSuch("task " + (i + 1), () -> x.dealt(task + 1));
            Checks.noSuch("task -1", () -> x.dealt(-1));
        }
        Checks.is("six", 6, x.deal());
        dealtIs("six", x, 0, 1, 2, 3, 4, 5);
    }

    // "TASKS LOST by a set of CABLES (bits; others count for nothing), as bits"
    private static void bitsOfCables() {
        GlassThreads x = withThreads();
        Checks.is("no cables, no tasks", 0, x.lost(-1));
        for (int i = 0; i < 6; i++) {
            x.task(i, i + 1);
        }
        Checks.is("tasks without ways aren't lost", 0, x.lost(-1));
        for (int i = 0; i < 7; i++) {
            x.cable(i, i + 1, 0, 1);
        }
        for (int set = 0; set < 128; set++) {
            Checks.is("lost by " + set, set & 63, x.lost(set));
            Checks.is("bits that are no cables count for nothing", set & 63, x.lost(set | -128));
        }
        Checks.is("the highest bit", 0, x.lost(LEAST));
        Checks.is("all but the highest", 63, x.lost(MOST));
        Checks.is("all", 63, x.lost(-1));
        Checks.is("the eighth isn't there yet", 0, x.lost(128));
    }

    // "TASKS whose LEAST WAY has one of them, and for which there is no WAY without them"
    private static void lostOrNot() {
        GlassThreads x = net(0, 1, 1, 0, 1, 8, 1, 2, 1, 0, 2, 8);
        x.task(0, 1);
        x.task(0, 2);
        x.task(3, 0);
        int[] due = new int[16];
        // the first has ways by 0, by 1, and by 3, 2; the second by 3 and by 0, 2 or 1, 2
        for (int cut = 0; cut < 16; cut++) {
            boolean first = (cut & 1) == 0 || (cut & 2) == 0 || (cut & 12) == 0;
            boolean second = (cut & 8) == 0 || (cut & 4) == 0 && (cut & 3) != 3;
            due[cut] = (first ? 0 : 1) | (second ? 0 : 2);
            Checks.is("lost by " + cut, due[cut], x.lost(cut));
        }
        Checks.is("worst of one", 0, x.worst(1));
        // of two: the second alone by 2 and 3
        Checks.is("worst of two", 12, x.worst(2));
    }

    // "WORST of so many (1 or 2)"; "IllegalArgumentException: another number."
    private static void howManyAreCut() {
        GlassThreads x = net(0, 1, 1);
        x.task(0, 1);
        int[] bad = {-1, 0, 3, LEAST, MOST};
        for (int many : bad) {
            Checks.illegal("worst of " + many, () -> x.worst(many));
        }
        Checks.is("worst of one", 1, x.worst(1));
        Checks.is("there are no two", 0, x.worst(2));
        x.cable(2, 3, 0, 1);
        Checks.is("worst of one", 1, x.worst(1));
        Checks.is("two", 3, x.worst(2));
        GlassThreads y = new GlassThreads();
        Checks.is("no cable", 0, y.worst(1));
        Checks.is("no two cables", 0, y.worst(2));
    }

    // "the most TASKS LOST, of like ones the first as a row (by numbers)"; "0: no TASK can be LOST so"
    private static void worstSets() {
        GlassThreads x = net(0, 1, 1, 1, 2, 1, 2, 3, 1, 4, 5, 1, 4, 5, 1);
        Checks.is("no tasks", 0, x.worst(1));
        x.task(4, 5);
        Checks.is("none by one", 0, x.worst(1));
        Checks.is("one by two", 0b11000, x.worst(2));
        x.task(2, 3);
        Checks.is("the third", 0b100, x.worst(1));
        Checks.is("0, 2 is ahead of 1, 2 and of 3, 4", 0b101, x.worst(2));
        x.task(1, 3);
        Checks.is("two by the third", 0b100, x.worst(1));
        Checks.is("0, 2 still", 0b101, x.worst(2));
        x.task(0, 1);
        Checks.is("three by 0, 2", 0b101, x.worst(2));
        x.task(1, 2);
        Checks.is("like ones: the first of 1 and 2", 0b10, x.worst(1));
        Checks.is("1, 2 has three as 0, 2 and 0, 1 have", 0b11, x.worst(2));
        GlassThreads y = net(2, 3, 1, 2, 3, 1, 0, 1, 1, 0, 1, 1, 0, 1, 1, 5, 6, 1, 6, 7, 1, 4, 5, 1, 3, 4, 1, 1, 2, 1);
        y.task(1, 2);
        Checks.is("the tenth", 0b1000000000, y.worst(1));
        Checks.is("the first and the tenth", 0b1000000001, y.worst(2));
        y.task(3, 5);
        Checks.is("the eighth is ahead of the ninth", 0b10000000, y.worst(1));
        Checks.is("both by one of them and the tenth", 0b1010000000, y.worst(2));
    }
}
