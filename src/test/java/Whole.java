import java.io.ByteArrayOutputStream;
import java.lang.reflect.Array;
import java.nio.ByteBuffer;
import java.nio.charset.StandardCharsets;
import java.util.ArrayList;
import java.util.Comparator;
import java.util.HashMap;
import java.util.List;
import java.util.Map;
import java.util.NoSuchElementException;
import java.util.stream.Collectors;
import java.util.stream.IntStream;

/**
 * All 39 promises once more, with lists and plain trials in place of the program's rows: LifeTest asks both
 * the same calls. Threads are read, lit and echoed by Model, one for each.
 */
final class Whole {
    private static final int NONE = -1;
    private static final int[] BYTES_OF_SORT = {Byte.MIN_VALUE, Byte.MAX_VALUE};
    private static final int[] SHORTS_OF_SORT = {Short.MIN_VALUE, Short.MAX_VALUE};

    private byte[] tape = {};
    private final List<Model> threads = new ArrayList<>();
    private Map<String, Model.Worth> law = new HashMap<>();
    private int faultPlace = NONE;
    private int tonight;
    private final List<Model.Event> events = new ArrayList<>();
    private int dead = 5;
    private List<Model.Echo> row;
    private int looked = NONE;
    private final List<int[]> suspects = new ArrayList<>();
    private final Map<Boolean, List<List<Integer>>> told = new HashMap<>();
    private List<Integer> sets;
    private List<Integer> lamps = List.of();
    private final List<int[]> cables = new ArrayList<>();
    private final List<Integer> prices = new ArrayList<>();
    private final List<int[]> tasks = new ArrayList<>();
    private List<Integer> kept = List.of();
    private List<Integer> dealt = List.of();
    private final List<Object> sheets = new ArrayList<>();
    private final List<Integer> sorts = new ArrayList<>();

    private static void there(boolean is) {
        if (!is) {
            throw new NoSuchElementException();
        }
    }

    private static void legal(boolean is) {
        if (!is) {
            throw new IllegalArgumentException();
        }
    }

    private static boolean in(int number, int least, int most) {
        return least <= number && number <= most;
    }

    private Model model(int thread) {
        there(in(thread, 0, threads.size() - 1));
        Model m = threads.get(thread);
        m.law = law;
        return m;
    }

    private Model model(int thread, int part) {
        there(in(part, 0, model(thread).parts.size() - 1));
        return model(thread);
    }

    // ---- 1 ----

    int feed(int a, int b, int c, int d, int e) {
        if (tape.length + 20 > 400) {
            return NONE;
        }
        ByteArrayOutputStream out = new ByteArrayOutputStream();
        out.writeBytes(tape);
        out.writeBytes(ByteBuffer.allocate(20).putInt(a).putInt(b).putInt(c).putInt(d).putInt(e).array());
        tape = out.toByteArray();
        return tape.length;
    }

    private String text(int n) {
        legal(in(n, 0, tape.length));
        String text = new String(tape, 0, n, StandardCharsets.ISO_8859_1);
        tape = new byte[0];
        faultPlace = NONE;
        return text;
    }

    int thread(int n, int year) {
        String text = text(n);
        if (threads.size() == 8 || !in(year, 0, 99)) {
            return -9;
        }
        Model m = new Model();
        if (!m.readThread(text, year)) {
            faultPlace = m.faultPlace;
            return -1 - m.faultKind;
        }
        threads.add(m);
        return threads.indexOf(m);
    }

    int law(int n) {
        Model m = new Model();
        if (!m.readLaw(text(n))) {
            faultPlace = m.faultPlace;
            return m.faultKind;
        }
        law = m.law;
        return 0;
    }

    int fault() {
        return faultPlace;
    }

    int part(int thread, int part, int what) {
        if (part == NONE && what == 0) {
            return model(thread).parts.size();
        }
        Model.Part p = model(thread, part).parts.get(part);
        there(in(what, 0, 2));
        return new int[] {List.of("run", "splice", "plug", "amp").indexOf(p.kind()), p.first(), p.second()}[what];
    }

    int loss(int thread, int part, int colour, int age) {
        Model m = model(thread, part);
        there(in(colour, 0, 7));
        legal(in(age, 0, 99));
        return m.loss(part, colour, age);
    }

    // ---- 2 ----

    int evenings(int n) {
        legal(n >= 0 && (long) tonight + n <= 999);
        return tonight += n;
    }

    int event(int kind, int thread, int part, int number, int day) {
        there(in(kind, 0, 3));
        Model m = model(thread, part);
        Model.Part p = m.parts.get(part);
        boolean fits;
        switch (kind) {
            case 0: fits = p.kind().equals("run") && in(number, 1, 20000); break;
            case 1: fits = p.kind().equals("run") && in(number, 0, p.first()); break;
            case 2: fits = p.kind().equals("amp") && number == 0; break;
            default: fits = number == 0;
        }
        if (!fits || events.size() == 120 || !in(day, 0, 36499)) {
            return NONE;
        }
        Model.Event e = new Model.Event(kind, part, number, day, tonight, new int[] {NONE});
        events.add(e);
        m.events.add(e);
        return events.size() - 1;
    }

    boolean back(int event) {
        there(in(event, 0, events.size() - 1));
        int[] taken = events.get(event).taken();
        boolean first = taken[0] == NONE;
        taken[0] = first ? tonight : taken[0];
        return first;
    }

    private void lit(int colour, int day, int k, int... levels) {
        there(in(colour, 0, 7) && in(day, 0, 36499));
        for (int level : levels) {
            legal(in(level, -60000, 30000));
        }
        legal(in(k, 0, tonight));
    }

    int level(int thread, int part, int colour, int sent, boolean end, int day, int k) {
        Model m = model(thread, part);
        lit(colour, day, k, sent);
        Integer level = m.level(part, colour, sent, end, new int[] {day, k});
        return level == null ? -100000 : level;
    }

    int margin(int thread, int colour, int sent, int need, int day, int k) {
        Model m = model(thread);
        lit(colour, day, k, sent, need);
        Integer margin = m.margin(colour, sent, need, new int[] {day, k});
        return margin == null ? -1000000 : margin;
    }

    int tired(int thread, int colour, int sent, int need) {
        Model m = model(thread);
        lit(colour, 0, 0, sent, need);
        return m.tired(colour, sent, need);
    }

    // ---- 3 ----

    int dead(int feet) {
        legal(in(feet, 0, 99));
        int was = dead;
        dead = feet;
        return was;
    }

    int echo(int thread, int colour, boolean end, int day, int k) {
        Model m = model(thread);
        lit(colour, day, k);
        row = m.echoes(colour, end, dead, day, k);
        return row.size();
    }

    int echoed(int i, int what) {
        there(row != null && in(i, 0, row.size() - 1) && in(what, 0, 2));
        Model.Echo e = row.get(i);
        return new int[] {e.distance(), e.size(), e.kind()}[what];
    }

    void look(int thread) {
        model(thread);
        looked = thread;
        suspects.clear();
        told.clear();
    }

    int suspect(int part, int size) {
        Model.Part p = model(looked, part).parts.get(part);
        boolean is = suspects.stream().anyMatch(s -> s[0] == part);
        if (is || suspects.size() == 8 || !p.kind().equals("run") || !in(size, 1, 20000)) {
            return NONE;
        }
        suspects.add(new int[] {part, size});
        return suspects.size();
    }

    private static List<List<Integer>> plain(List<Model.Echo> row) {
        return row.stream().map(e -> List.of(e.distance(), e.size())).collect(Collectors.toList());
    }

    boolean seen(boolean end) {
        model(looked);
        if (row == null) {
            return false;
        }
        told.put(end, plain(row));
        return true;
    }

    int readBack(int colour) {
        Model m = model(looked);
        there(in(colour, 0, 7));
        sets = IntStream.range(0, 1 << suspects.size()).filter(set -> {
            Model bent = new Model();
            bent.parts = m.parts;
            bent.law = law;
            for (int i = 0; i < suspects.size(); i++) {
                if ((set >> i & 1) == 1) {
                    bent.events.add(new Model.Event(0, suspects.get(i)[0], suspects.get(i)[1], 0, 0, new int[] {NONE}));
                }
            }
            return told.keySet().stream().allMatch(end -> plain(bent.echoes(colour, end, dead, 0, 0)).equals(told.get(end)));
        }).boxed().collect(Collectors.toList());
        return sets.size();
    }

    int found(int what) {
        there(sets != null && in(what, 0, 2));
        int all = sets.stream().reduce((a, b) -> a & b).orElse(0);
        int some = sets.stream().reduce((a, b) -> a | b).orElse(0);
        return new int[] {sets.isEmpty() ? NONE : sets.get(0), all, some - all}[what];
    }

    // ---- 4 ----

    private static int[] ground(int d, int low, int high) {
        return new int[] {Math.floorDiv(d * 1000, 1000 + high), -Math.floorDiv(-d * 1000, 1000 + low)};
    }

    int dig(int d, int low, int high, int what) {
        legal(in(d, 0, 99999) && in(low, 0, 500) && in(high, 0, 500) && low <= high);
        there(in(what, 0, 1));
        return ground(d, low, high)[what];
    }

    int both(int d, int e, int g, int low, int high, int what) {
        legal(in(e, 0, 99999) && in(g, 0, 99999));
        dig(d, low, high, what);
        int[] near = ground(d, low, high);
        int[] far = ground(e, low, high);
        int[] span = {Math.max(near[0], g - far[1]), Math.min(near[1], g - far[0])};
        return span[0] > span[1] ? NONE : span[what];
    }

    // ---- 5 ----

    int lamps(int thread, int n, int base, int a, int b, int c, int d, int day) {
        Model m = model(thread);
        there(in(day, 0, 36499));
        legal(in(n, 1, 4) && in(base, -60000, 20000));
        int[] needs = {a, b, c, d};
        lit(0, day, tonight, needs);
        // what a lamp has at the end by its steps; how far is what disturbs it comes later
        Integer[][] alone = new Integer[n][8];
        for (int colour = 0; colour < n; colour++) {
            for (int steps = 0; steps < 8; steps++) {
                alone[colour][steps] = m.margin(colour, base + 500 * steps, needs[colour], new int[] {day, tonight});
                if (alone[colour][steps] == null) {
                    return -1000000;
                }
            }
        }
        int[] best = null;
        for (int i = 0; i < 1 << 3 * n; i++) {
            int[] tried = {Integer.MAX_VALUE, 0, i};
            for (int colour = 0; colour < n; colour++) {
                int steps = step(i, colour, n);
                int left = alone[colour][steps];
                for (int o = 0; o < n; o++) {
                    left -= o == colour ? 0 : step(i, o, n) * 100 / Math.abs(o - colour);
                }
                tried[0] = Math.min(tried[0], left);
                tried[1] += steps;
            }
            if (best == null || tried[0] > best[0] || tried[0] == best[0] && tried[1] < best[1]) {
                best = tried;
            }
        }
        int row = best[2];
        lamps = IntStream.range(0, n).map(colour -> step(row, colour, n)).boxed().collect(Collectors.toList());
        return best[0];
    }

    /** The steps of a colour in a row of n that is counted up with the last colour the fastest. */
    private static int step(int row, int colour, int n) {
        return row >> 3 * (n - 1 - colour) & 7;
    }

    int steps(int colour) {
        there(in(colour, 0, 7));
        return colour < lamps.size() ? lamps.get(colour) : NONE;
    }

    // ---- 6 ----

    int cable(int a, int b, int thread, int colours) {
        there(in(a, 0, 7) && in(b, 0, 7));
        model(thread);
        if (cables.size() == 10 || a == b || !in(colours, 1, 8)) {
            return NONE;
        }
        cables.add(new int[] {a, b, thread, colours});
        return cables.size() - 1;
    }

    int task(int a, int b) {
        there(in(a, 0, 7) && in(b, 0, 7));
        if (tasks.size() == 6 || a == b) {
            return NONE;
        }
        tasks.add(new int[] {a, b});
        return tasks.size() - 1;
    }

    /** What each cable costs now: the law may have changed since the last call. */
    private void price() {
        prices.clear();
        for (int[] cable : cables) {
            Model m = model(cable[2]);
            prices.add(Math.max(1, IntStream.range(0, m.parts.size())
                    .filter(p -> !m.parts.get(p).kind().equals("amp")).map(p -> m.loss(p, 0, 0)).sum()));
        }
    }

    private int cost(List<Integer> way) {
        return way.stream().mapToInt(prices::get).sum();
    }

    private static int asRows(List<Integer> a, List<Integer> b) {
        for (int i = 0; i < Math.min(a.size(), b.size()); i++) {
            if (!a.get(i).equals(b.get(i))) {
                return Integer.compare(a.get(i), b.get(i));
            }
        }
        return Integer.compare(a.size(), b.size());
    }

    /** All ways, the least first. */
    private List<List<Integer>> ways(int a, int b) {
        price();
        List<List<Integer>> all = new ArrayList<>();
        walk(a, b, new ArrayList<>(List.of(a)), new ArrayList<>(), all);
        Map<List<Integer>, Integer> costs = new HashMap<>();
        all.forEach(w -> costs.put(w, cost(w)));
        all.sort(Comparator.<List<Integer>>comparingInt(costs::get).thenComparingInt(List::size)
                .thenComparing(Whole::asRows));
        return all;
    }

    private void walk(int at, int b, List<Integer> nodes, List<Integer> way, List<List<Integer>> all) {
        if (at == b) {
            all.add(List.copyOf(way));
            return;
        }
        // from the last cable on: it is the sorting that must bring the first row ahead
        for (int c = cables.size() - 1; c >= 0; c--) {
            int[] ends = cables.get(c);
            int to = ends[0] == at ? ends[1] : ends[0];
            if ((ends[0] == at || ends[1] == at) && !nodes.contains(to)) {
                nodes.add(to);
                way.add(c);
                walk(to, b, nodes, way, all);
                nodes.remove(nodes.size() - 1);
                way.remove(way.size() - 1);
            }
        }
    }

    int way(int a, int b) {
        there(in(a, 0, 7) && in(b, 0, 7));
        List<List<Integer>> ways = ways(a, b);
        if (ways.isEmpty()) {
            return NONE;
        }
        kept = ways.get(0);
        return cost(kept);
    }

    int pair(int a, int b) {
        there(in(a, 0, 7) && in(b, 0, 7));
        int least = NONE;
        if (a == b) {
            return NONE;
        }
        List<List<Integer>> ways = ways(a, b);
        List<Integer> costs = ways.stream().map(this::cost).collect(Collectors.toList());
        for (int i = 0; i < ways.size(); i++) {
            for (int j = 0; j < ways.size(); j++) {
                int together = costs.get(i) + costs.get(j);
                if ((least == NONE || together < least) && (bits(ways.get(i)) & bits(ways.get(j))) == 0) {
                    least = together;
                    kept = new ArrayList<>(ways.get(i));
                    kept.addAll(ways.get(j));
                }
            }
        }
        return least;
    }

    private static int bits(List<Integer> way) {
        return way.stream().mapToInt(c -> 1 << c).sum();
    }

    int along(int i) {
        there(in(i, NONE, kept.size() - 1));
        return i == NONE ? kept.size() : kept.get(i);
    }

    int deal() {
        List<Integer> ways = new ArrayList<>();
        for (int[] t : tasks) {
            List<List<Integer>> all = ways(t[0], t[1]);
            if (all.isEmpty()) {
                return NONE;
            }
            ways.add(bits(all.get(0)));
        }
        for (int most = 0; most <= 8; most++) {
            List<List<Integer>> rows = new ArrayList<>();
            colour(ways, most, new ArrayList<>(), rows);
            if (!rows.isEmpty()) {
                dealt = rows.get(0);
                return most;
            }
        }
        return NONE;
    }

    /** All rows of fewer colours, as rows. */
    private void colour(List<Integer> ways, int most, List<Integer> row, List<List<Integer>> rows) {
        int t = row.size();
        if (t == ways.size()) {
            rows.add(List.copyOf(row));
            return;
        }
        for (int colour = 0; colour < most; colour++) {
            boolean fine = true;
            for (int c = 0; c < cables.size(); c++) {
                fine &= (ways.get(t) >> c & 1) == 0 || colour < cables.get(c)[3];
            }
            for (int o = 0; o < t; o++) {
                fine &= (ways.get(o) & ways.get(t)) == 0 || row.get(o) != colour;
            }
            if (fine) {
                row.add(colour);
                colour(ways, most, row, rows);
                row.remove(t);
            }
        }
    }

    int dealt(int task) {
        there(in(task, 0, tasks.size() - 1));
        return task < dealt.size() ? dealt.get(task) : NONE;
    }

    /** Of each task all its ways as bits, the least first. */
    private List<List<Integer>> waysOfTasks() {
        return tasks.stream().map(t -> ways(t[0], t[1]).stream().map(Whole::bits).collect(Collectors.toList()))
                .collect(Collectors.toList());
    }

    private static int lost(List<List<Integer>> ways, int cut) {
        int gone = 0;
        for (int t = 0; t < ways.size(); t++) {
            boolean hit = !ways.get(t).isEmpty() && (ways.get(t).get(0) & cut) != 0;
            gone |= hit && ways.get(t).stream().allMatch(w -> (w & cut) != 0) ? 1 << t : 0;
        }
        return gone;
    }

    int lost(int cut) {
        return lost(waysOfTasks(), cut);
    }

    int worst(int many) {
        legal(in(many, 1, 2));
        List<List<Integer>> ways = waysOfTasks();
        int worst = 0;
        int most = 0;
        for (int i = 0; i < cables.size(); i++) {
            for (int j = i; j < cables.size(); j++) {
                int gone = (i == j) == (many == 1) ? Integer.bitCount(lost(ways, 1 << i | 1 << j)) : 0;
                worst = gone > most ? 1 << i | 1 << j : worst;
                most = Math.max(most, gone);
            }
        }
        return worst;
    }

    // ---- 7: the machine's own arrays; it is for them to say what can't be ----

    int sheet(int sort, int size) {
        if (sheets.size() == 8 || !in(sort, 0, 2)) {
            return NONE;
        }
        if (!in(size, -1, 24)) {
            return -2;
        }
        Class<?>[] kinds = {byte.class, short.class, int.class};
        sheets.add(size == NONE ? null : Array.newInstance(kinds[sort], size));
        sorts.add(sort);
        return sheets.size() - 1;
    }

    private Object page(int sheet) {
        there(in(sheet, 0, sheets.size() - 1));
        return sheets.get(sheet);
    }

    int write(int sheet, int at, int v) {
        Object page = page(sheet);
        try {
            Array.getInt(page, at);
        } catch (NullPointerException e) {
            return 1;
        } catch (ArrayIndexOutOfBoundsException e) {
            return 3;
        }
        int sort = sorts.get(sheet);
        if (sort == 0) {
            if (!in(v, BYTES_OF_SORT[0], BYTES_OF_SORT[1])) {
                return 4;
            }
            Array.setByte(page, at, (byte) v);
        } else if (sort == 1) {
            if (!in(v, SHORTS_OF_SORT[0], SHORTS_OF_SORT[1])) {
                return 4;
            }
            Array.setShort(page, at, (short) v);
        } else {
            Array.setInt(page, at, v);
        }
        return 0;
    }

    int copy(int from, int at, int to, int on, int n) {
        Object source = page(from);
        Object target = page(to);
        try {
            System.arraycopy(source, at, target, on, n);
        } catch (NullPointerException e) {
            return 1;
        } catch (ArrayStoreException e) {
            return 2;
        } catch (IndexOutOfBoundsException e) {
            return 3;
        }
        return 0;
    }

    int rowOf(int sheet, int at, int n) {
        Object page = page(sheet);
        legal(in(n, 0, 8));
        if (page == null) {
            return 1;
        }
        if (at < 0 || (long) at + 3 * n > Array.getLength(page)) {
            return 3;
        }
        List<Model.Echo> read = new ArrayList<>();
        for (int i = 0; i < n; i++) {
            int[] e = new int[3];
            for (int j = 0; j < 3; j++) {
                e[j] = Array.getInt(page, at + 3 * i + j);
            }
            boolean falls = i > 0 && e[0] < read.get(i - 1).distance();
            if (e[0] < 0 || e[1] < 0 || !in(e[2], 0, 4) || falls) {
                return 4;
            }
            read.add(new Model.Echo(e[0], e[1], e[2]));
        }
        row = read;
        return 0;
    }

    int count(int what) {
        there(in(what, 0, 7));
        return new int[] {tonight, threads.size(), events.size(), cables.size(), tasks.size(), sheets.size(),
            suspects.size(), tape.length}[what];
    }
}
