import java.util.ArrayList;
import java.util.Comparator;
import java.util.List;
import java.util.Random;

/** Promises 26 to 34: cables, tasks, ways, pairs, colours dealt, and what is lost. */
public final class NetTest {
    private static final int NONE = GlassThreads.NONE;

    public static void main(String[] args) {
        cables();
        tasks();
        costs();
        leastWays();
        keptWays();
        pairs();
        wrongNodes();
        deal();
        dealLimits();
        lost();
        worst();
        manyNets();
        Checks.end();
    }

    /** Threads 0 to 7 of lengths 5, 10, .. 40: costs of 10, 20, .. 80. */
    private static GlassThreads withThreads() {
        GlassThreads x = new GlassThreads();
        for (int i = 1; i <= 8; i++) {
            Checks.thread(x, "run " + 5 * i + ";", 0);
        }
        return x;
    }

    private static void kept(String what, GlassThreads x, int... due) {
        Checks.is(what + ": how many", due.length, x.along(NONE));
        for (int i = 0; i < due.length; i++) {
            Checks.is(what + ", " + i, due[i], x.along(i));
        }
        Checks.noSuch(what + ": no more", () -> x.along(due.length));
        Checks.noSuch(what + ": -2", () -> x.along(-2));
    }

    private static void cables() {
        GlassThreads x = withThreads();
        Checks.is("one node", NONE, x.cable(3, 3, 0, 1));
        Checks.is("no colours", NONE, x.cable(3, 4, 0, 0));
        Checks.is("nine colours", NONE, x.cable(3, 4, 0, 9));
        Checks.noSuch("node 8", () -> x.cable(8, 0, 0, 1));
        Checks.noSuch("node -1", () -> x.cable(0, -1, 0, 1));
        Checks.noSuch("thread, even of one node", () -> x.cable(3, 3, 8, 0));
        Checks.noSuch("thread -1", () -> x.cable(3, 4, -1, 1));
        for (int i = 0; i < 10; i++) {
            Checks.is("cable " + i, i, x.cable(7 - i % 3, i % 3, i % 8, i % 8 + 1));
        }
        Checks.is("there are 10", NONE, x.cable(3, 4, 0, 1));
        Checks.is("ten", 10, x.count(3));
        Checks.noSuch("node 8, even then", () -> x.cable(8, 0, 0, 1));
    }

    private static void tasks() {
        GlassThreads x = new GlassThreads();
        Checks.is("one node", NONE, x.task(2, 2));
        Checks.noSuch("node 8", () -> x.task(0, 8));
        Checks.noSuch("node -1", () -> x.task(-1, -1));
        for (int i = 0; i < 6; i++) {
            Checks.is("task " + i, i, x.task(i, 7));
        }
        Checks.is("there are 6", NONE, x.task(0, 1));
        Checks.is("six", 6, x.count(4));
        Checks.noSuch("no colour of task 6", () -> x.dealt(6));
        Checks.noSuch("nor of -1", () -> x.dealt(-1));
        Checks.is("none dealt", NONE, x.dealt(5));
    }

    private static void costs() {
        GlassThreads x = new GlassThreads();
        Checks.thread(x, "run 5; splice; amp 100 100; plug 3;", 20);
        Checks.thread(x, "amp 1 1;", 0);
        x.cable(0, 1, 0, 1);
        x.cable(1, 2, 1, 1);
        Checks.is("losses of all parts but amps", 360, x.way(0, 1));
        Checks.is("at least 1", 1, x.way(1, 2));
        Checks.law(x, "run 100 + age + colour; splice 0; plug 0; noise 99;");
        Checks.is("by the law told last, colour 0 at age 0", 100, x.way(0, 1));
        Checks.law(x, "run 0; splice 0; plug 0;");
        Checks.is("at least 1, again", 2, x.way(0, 2));
        x.event(0, 0, 0, 500, 0);
        x.event(1, 0, 0, 1, 0);
        Checks.is("events don't count", 2, x.way(2, 0));
    }

    private static void leastWays() {
        GlassThreads x = withThreads();
        x.cable(0, 1, 3, 1);
        x.cable(0, 2, 1, 1);
        x.cable(2, 1, 1, 1);
        Checks.is("cost 40 both ways", 40, x.way(0, 1));
        kept("fewest cables", x, 0);
        x.cable(1, 0, 3, 1);
        x.way(0, 1);
        kept("the first as a row", x, 0);
        x.cable(0, 1, 2, 1);
        Checks.is("the least cost", 30, x.way(0, 1));
        kept("the least cost", x, 4);
        x.cable(2, 1, 0, 1);
        Checks.is("cost 30 both ways", 30, x.way(1, 0));
        kept("fewest cables again", x, 4);
        // from 3 to 6 there are rows 8, 7 and 6, 9 (seen from 3): the first as a row is 6, 9
        x.cable(3, 4, 0, 1);
        x.cable(6, 5, 0, 1);
        x.cable(3, 5, 0, 1);
        x.cable(4, 6, 0, 1);
        Checks.is("two like ways", 20, x.way(3, 6));
        kept("from 3", x, 6, 9);
        Checks.is("the other way round", 20, x.way(6, 3));
        kept("from 6", x, 7, 8);
    }

    private static void keptWays() {
        GlassThreads x = withThreads();
        kept("nothing at first", x);
        Checks.is("no way", NONE, x.way(0, 1));
        x.cable(0, 1, 0, 1);
        x.way(0, 1);
        Checks.is("no way to 2", NONE, x.way(0, 2));
        kept("what was kept stays", x, 0);
        Checks.is("no pair", NONE, x.pair(0, 1));
        kept("still", x, 0);
        Checks.is("no pair of one node", NONE, x.pair(1, 1));
        kept("even then", x, 0);
        Checks.is("one node", 0, x.way(5, 5));
        kept("an empty way", x);
    }

    private static void pairs() {
        GlassThreads x = withThreads();
        // the least way from 0 to 3 (0, 1, 2) shares a cable with each other way: a pair goes round it
        x.cable(0, 1, 0, 1);
        x.cable(1, 2, 0, 1);
        x.cable(2, 3, 0, 1);
        x.cable(0, 2, 3, 1);
        x.cable(1, 3, 3, 1);
        Checks.is("least", 30, x.way(0, 3));
        Checks.is("a pair", 100, x.pair(0, 3));
        kept("one behind the other", x, 0, 4, 3, 2);
        x.way(0, 3);
        kept("a way alone", x, 0, 1, 2);
        // of like costs together the first one is the least there is
        x.cable(0, 3, 6, 1);
        Checks.is("cheaper together", 100, x.pair(0, 3));
        kept("30 and 70", x, 0, 1, 2, 5);
        x.cable(3, 0, 6, 1);
        x.pair(3, 0);
        kept("from 3", x, 2, 1, 0, 5);
        GlassThreads y = withThreads();
        y.cable(0, 1, 0, 1);
        y.cable(0, 1, 0, 1);
        y.cable(0, 1, 0, 1);
        y.cable(1, 2, 0, 1);
        y.cable(1, 2, 0, 1);
        Checks.is("they may share a node", 40, y.pair(0, 2));
        kept("the first ones", y, 0, 3, 1, 4);
    }

    private static void wrongNodes() {
        GlassThreads x = withThreads();
        x.cable(0, 1, 0, 1);
        Checks.noSuch("way from 8", () -> x.way(8, 8));
        Checks.noSuch("way to -1", () -> x.way(0, -1));
        Checks.noSuch("pair from -1", () -> x.pair(-1, -1));
        Checks.noSuch("pair to 8", () -> x.pair(0, 8));
    }

    private static void colours(String what, GlassThreads x, int... due) {
        for (int i = 0; i < due.length; i++) {
            Checks.is(what + ", task " + i, due[i], x.dealt(i));
        }
    }

    private static void deal() {
        GlassThreads x = withThreads();
        Checks.is("no task", 0, x.deal());
        x.cable(0, 1, 0, 8);
        x.cable(1, 2, 0, 8);
        x.cable(2, 3, 0, 8);
        x.task(0, 1);
        Checks.is("one", 1, x.deal());
        x.task(2, 3);
        x.task(0, 3);
        colours("only what was dealt", x, 0, NONE, NONE);
        Checks.is("two", 2, x.deal());
        colours("two", x, 0, 0, 1);
        x.task(1, 3);
        x.task(2, 1);
        Checks.is("three", 3, x.deal());
        colours("three", x, 0, 0, 1, 2, 0);
        x.task(0, 7);
        Checks.is("a task without a way", NONE, x.deal());
        colours("what was kept stays", x, 0, 0, 1, 2, 0, NONE);
        Checks.is("lost, but not one without a way", 0b001110, x.lost(4));
    }

    private static void dealLimits() {
        GlassThreads x = withThreads();
        x.cable(0, 1, 0, 2);
        x.cable(1, 2, 0, 1);
        x.task(0, 1);
        x.task(2, 0);
        Checks.is("fewest colours", 2, x.deal());
        colours("a cable of one colour", x, 1, 0);
        x.task(1, 2);
        Checks.is("it can't be", NONE, x.deal());
        colours("it stays", x, 1, 0, NONE);
        GlassThreads y = withThreads();
        y.cable(0, 1, 0, 5);
        for (int i = 0; i < 5; i++) {
            y.task(i % 2, 1 - i % 2);
        }
        Checks.is("five", 5, y.deal());
        colours("five", y, 0, 1, 2, 3, 4);
        y.task(0, 1);
        Checks.is("not six", NONE, y.deal());
        y.cable(0, 1, 1, 8);
        Checks.is("spare ways don't help", NONE, y.deal());
        Checks.law(y, "run 100 - length;");
        Checks.is("the least way has eight", 6, y.deal());
    }

    private static void lost() {
        GlassThreads x = withThreads();
        x.task(0, 3);
        x.cable(0, 1, 0, 1);
        x.cable(1, 2, 0, 1);
        x.cable(0, 2, 4, 1);
        x.task(0, 1);
        x.task(0, 2);
        x.task(1, 2);
        Checks.is("none", 0, x.lost(0));
        Checks.is("there is another way", 0, x.lost(1));
        Checks.is("node 0 is alone", 0b0110, x.lost(0b101));
        Checks.is("node 1 is alone", 0b1010, x.lost(0b011));
        Checks.is("others count for nothing", 0, x.lost(~7));
        Checks.is("all", 0b1110, x.lost(-1));
    }

    private static void worst() {
        GlassThreads x = withThreads();
        Checks.illegal("none", () -> x.worst(0));
        Checks.illegal("three", () -> x.worst(3));
        Checks.illegal("-1", () -> x.worst(-1));
        Checks.is("no cable", 0, x.worst(1));
        x.cable(6, 7, 0, 1);
        x.cable(0, 1, 0, 1);
        Checks.is("no task", 0, x.worst(2));
        x.task(0, 1);
        Checks.is("one", 0b10, x.worst(1));
        Checks.is("two, the first as a row", 0b11, x.worst(2));
        x.cable(0, 1, 0, 1);
        Checks.is("none by one cut", 0, x.worst(1));
        Checks.is("by two", 0b110, x.worst(2));
        x.cable(1, 2, 0, 1);
        x.task(1, 2);
        x.task(0, 2);
        Checks.is("the most", 0b1000, x.worst(1));
        Checks.is("of like ones the first", 0b1001, x.worst(2));
        GlassThreads y = withThreads();
        y.cable(0, 1, 0, 1);
        y.task(0, 1);
        Checks.is("there are no two", 0, y.worst(2));
    }

    // ---- nets by chance (always the same), against ways listed one by one ----

    private static final class Walk {
        private final List<Integer> row = new ArrayList<>();
        private int cost;

        private boolean shares(Walk other) {
            return row.stream().anyMatch(other.row::contains);
        }
    }

    private static final Comparator<Walk> LEAST = Comparator.<Walk>comparingInt(w -> w.cost)
            .thenComparingInt(w -> w.row.size())
            .thenComparing(w -> w.row, NetTest::compareRows);

    private static int compareRows(List<Integer> a, List<Integer> b) {
        for (int i = 0; i < Math.min(a.size(), b.size()); i++) {
            if (!a.get(i).equals(b.get(i))) {
                return a.get(i) - b.get(i);
            }
        }
        return a.size() - b.size();
    }

    /** All ways from a to b, found as rows of growing length: each is tried with each cable behind it. */
    private static List<Walk> allWays(int[][] net, int a, int b) {
        List<Walk> done = new ArrayList<>();
        List<Walk> open = new ArrayList<>();
        open.add(new Walk());
        for (int length = 0; length <= 8; length++) {
            List<Walk> longer = new ArrayList<>();
            for (Walk w : open) {
                List<Integer> nodes = nodesOf(net, a, w);
                int at = nodes.get(nodes.size() - 1);
                if (at == b) {
                    done.add(w);
                    continue;
                }
                for (int i = 0; i < net.length; i++) {
                    int to = net[i][0] == at ? net[i][1] : net[i][1] == at ? net[i][0] : NONE;
                    if (to != NONE && !nodes.contains(to)) {
                        Walk next = new Walk();
                        next.row.addAll(w.row);
                        next.row.add(i);
                        next.cost = w.cost + 10 * (net[i][2] + 1);
                        longer.add(next);
                    }
                }
            }
            open = longer;
        }
        done.sort(LEAST);
        return done;
    }

    private static List<Integer> nodesOf(int[][] net, int a, Walk w) {
        List<Integer> nodes = new ArrayList<>(List.of(a));
        for (int cable : w.row) {
            int at = nodes.get(nodes.size() - 1);
            nodes.add(net[cable][0] == at ? net[cable][1] : net[cable][0]);
        }
        return nodes;
    }

    private static void manyNets() {
        Random chance = new Random(26);
        for (int n = 0; n < 300; n++) {
            GlassThreads x = withThreads();
            int nodes = 3 + chance.nextInt(6);
            int[][] net = new int[2 + chance.nextInt(9)][];
            for (int i = 0; i < net.length; i++) {
                int a = chance.nextInt(nodes);
                int b = (a + 1 + chance.nextInt(nodes - 1)) % nodes;
                net[i] = new int[] {a, b, chance.nextInt(n % 2 == 0 ? 8 : 2), 1 + chance.nextInt(4)};
                x.cable(a, b, net[i][2], net[i][3]);
            }
            waysOf(x, net, nodes, chance);
            tasksOf(x, net, nodes, chance);
        }
    }

    private static void waysOf(GlassThreads x, int[][] net, int nodes, Random chance) {
        for (int i = 0; i < 6; i++) {
            int a = chance.nextInt(nodes);
            int b = chance.nextInt(nodes);
            List<Walk> ways = allWays(net, a, b);
            Checks.is("way", ways.isEmpty() ? NONE : ways.get(0).cost, x.way(a, b));
            if (!ways.isEmpty()) {
                kept("way", x, ways.get(0).row.stream().mapToInt(c -> c).toArray());
            }
            Walk first = null;
            Walk other = null;
            for (Walk w : ways) {
                for (Walk v : ways) {
                    boolean less = first == null || w.cost + v.cost < first.cost + other.cost;
                    // ways come as LEAST, so of like pairs the first stays
                    if (a != b && !w.shares(v) && less) {
                        first = w;
                        other = v;
                    }
                }
            }
            Checks.is("pair", first == null ? NONE : first.cost + other.cost, x.pair(a, b));
            if (first != null) {
                List<Integer> row = new ArrayList<>(first.row);
                row.addAll(other.row);
                kept("pair", x, row.stream().mapToInt(c -> c).toArray());
            }
        }
    }

    private static void tasksOf(GlassThreads x, int[][] net, int nodes, Random chance) {
        int[][] tasks = new int[1 + chance.nextInt(4)][];
        for (int i = 0; i < tasks.length; i++) {
            int a = chance.nextInt(nodes);
            tasks[i] = new int[] {a, (a + 1 + chance.nextInt(nodes - 1)) % nodes};
            x.task(tasks[i][0], tasks[i][1]);
        }
        int[] best = {0, 0};
        int[] most = {0, 0};
        for (int i = 0; i < net.length; i++) {
            for (int j = i; j < net.length; j++) {
                int cut = 1 << i | 1 << j;
                int gone = lostOf(net, tasks, cut);
                Checks.is("lost", gone, x.lost(cut));
                int many = i == j ? 0 : 1;
                if (Integer.bitCount(gone) > most[many]) {
                    most[many] = Integer.bitCount(gone);
                    best[many] = cut;
                }
            }
        }
        Checks.is("worst of one", best[0], x.worst(1));
        Checks.is("worst of two", best[1], x.worst(2));
        dealOf(x, net, tasks);
    }

    private static int lostOf(int[][] net, int[][] tasks, int cut) {
        int gone = 0;
        for (int t = 0; t < tasks.length; t++) {
            List<Walk> ways = allWays(net, tasks[t][0], tasks[t][1]);
            boolean hit = !ways.isEmpty() && ways.get(0).row.stream().anyMatch(c -> (cut >> c & 1) == 1);
            boolean spare = ways.stream().anyMatch(w -> w.row.stream().noneMatch(c -> (cut >> c & 1) == 1));
            gone |= hit && !spare ? 1 << t : 0;
        }
        return gone;
    }

    private static void dealOf(GlassThreads x, int[][] net, int[][] tasks) {
        List<Walk> ways = new ArrayList<>();
        for (int[] t : tasks) {
            List<Walk> all = allWays(net, t[0], t[1]);
            if (all.isEmpty()) {
                Checks.is("a task without a way", NONE, x.deal());
                return;
            }
            ways.add(all.get(0));
        }
        int[] best = null;
        int fewest = 0;
        // rows of colours 0 to 3 in their order: the first of the fewest stays
        for (int i = 0; i < 1 << 2 * tasks.length; i++) {
            int[] row = new int[tasks.length];
            int greatest = 0;
            for (int t = 0; t < row.length; t++) {
                row[t] = i >> 2 * (row.length - 1 - t) & 3;
                greatest = Math.max(greatest, row[t]);
            }
            if (isDealt(net, ways, row) && (best == null || greatest + 1 < fewest)) {
                best = row;
                fewest = greatest + 1;
            }
        }
        Checks.is("dealt", best == null ? NONE : fewest, x.deal());
        for (int t = 0; t < tasks.length; t++) {
            Checks.is("colour", best == null ? NONE : best[t], x.dealt(t));
        }
    }

    private static boolean isDealt(int[][] net, List<Walk> ways, int[] row) {
        for (int t = 0; t < row.length; t++) {
            for (int cable : ways.get(t).row) {
                if (row[t] >= net[cable][3]) {
                    return false;
                }
            }
            for (int o = 0; o < t; o++) {
                if (row[o] == row[t] && ways.get(o).shares(ways.get(t))) {
                    return false;
                }
            }
        }
        return true;
    }
}
