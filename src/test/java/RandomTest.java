import java.util.ArrayList;
import java.util.List;
import java.util.Random;

/** Texts, levels, echoes and what is read back, by chance (always the same), against the model. */
public final class RandomTest {
    private static final String[] WORDS = {"run", "splice", "plug", "amp", "noise", "or", "and", "not", "colour",
        "age", "length", "size", "nth", "x", "ages", ";", "(", ")", "+", "-", "*", "/", "<", "=", "0", "7", "12345",
        "99999", "123456", "A", "\u00e9", "?", ""};
    private static final Random CHANCE = new Random(39);

    public static void main(String[] args) {
        for (int i = 0; i < 6000; i++) {
            threadText(i);
            lawText();
        }
        for (int i = 0; i < 1500; i++) {
            life();
        }
        Checks.end();
    }

    private static int below(int n) {
        return CHANCE.nextInt(n);
    }

    private static String pick(String... some) {
        return some[below(some.length)];
    }

    // ---- texts ----

    private static String thread(int parts) {
        StringBuilder text = new StringBuilder();
        for (int i = 0; i < parts; i++) {
            String blank = pick("", " ", "\n ");
            switch (below(16)) {
                case 0: case 1: case 2: case 3: text.append("plug").append(blank).append(below(100)); break;
                case 4: case 5: case 6: case 7: text.append("splice"); break;
                case 8: text.append("amp ").append(below(4000)).append(" ").append(below(3000)); break;
                default: text.append("run").append(blank).append(1 + below(60));
            }
            text.append(blank).append(";").append(blank);
        }
        return text.toString();
    }

    private static String expression(int depth) {
        switch (below(depth > 3 ? 3 : 12)) {
            case 0: return pick("colour", "age", "length", "size", "nth");
            case 1: return String.valueOf(below(100000));
            case 2: return String.valueOf(below(50));
            case 3: return "(" + expression(depth + 1) + ")";
            case 4: return "not " + expression(depth + 1);
            case 5: return "(" + expression(depth + 1) + pick("<", "=") + expression(depth + 1) + ")";
            case 6: return "(" + expression(depth + 1) + pick(" and ", " or ") + expression(depth + 1) + ")";
            case 7: return expression(depth + 1) + pick(" and ", " or ") + expression(depth + 1);
            default: return expression(depth + 1) + pick("+", "-", "*", "/", " * ") + expression(depth + 1);
        }
    }

    private static String law() {
        StringBuilder text = new StringBuilder();
        for (int i = below(5); i > 0; i--) {
            text.append(pick("run ", "splice ", "plug ", "noise ")).append(expression(0)).append(";");
        }
        return text.toString();
    }

    /** Puts some other tokens in, or leaves some out. */
    private static String spoiled(String text) {
        List<String> tokens = new ArrayList<>();
        for (Model.Token t : Model.tokens(text)) {
            tokens.add(t.text());
        }
        for (int i = below(3); i > 0; i--) {
            int at = below(tokens.size());
            switch (below(4)) {
                case 0: tokens.remove(at); break;
                case 1: tokens.add(at, pick(WORDS)); break;
                case 2: tokens.set(at, pick(WORDS)); break;
                default: while (tokens.size() > at + 1) {
                    tokens.remove(at + 1);
                }
            }
            if (tokens.isEmpty()) {
                tokens.add("");
            }
        }
        String all = String.join(pick(" ", "\n", " "), tokens);
        return all.substring(0, Math.min(all.length(), 400));
    }

    private static void threadText(int i) {
        String text = spoiled(i % 50 == 0 ? "splice;".repeat(20) + thread(6) : thread(1 + below(9)));
        GlassThreads x = new GlassThreads();
        Model m = new Model();
        boolean fine = m.readThread(text, 0);
        Checks.is("thread '" + text + "'", fine ? 0 : -1 - m.faultKind, Checks.thread(x, text, 0));
        Checks.is("fault of '" + text + "'", fine ? -1 : m.faultPlace, x.fault());
        Checks.is("parts of '" + text + "'", fine ? 1 : 0, x.count(1));
        if (fine) {
            Checks.is("how many", m.parts.size(), x.part(0, -1, 0));
            for (int p = 0; p < m.parts.size(); p++) {
                Model.Part part = m.parts.get(p);
                Checks.is("kind", List.of("run", "splice", "plug", "amp").indexOf(part.kind()), x.part(0, p, 0));
                Checks.is("first", part.first(), x.part(0, p, 1));
                Checks.is("second", part.second(), x.part(0, p, 2));
            }
        }
    }

    private static void lawText() {
        String text = spoiled(law());
        GlassThreads x = new GlassThreads();
        Model m = new Model();
        String parts = "run 7; splice; plug 3; amp 9 9; run 8; splice; plug 4; amp 1 9;";
        m.readThread(parts, 0);
        Checks.thread(x, parts, 0);
        boolean fine = m.readLaw(text);
        Checks.is("law '" + text + "'", fine ? 0 : m.faultKind, Checks.law(x, text));
        Checks.is("fault of '" + text + "'", fine ? -1 : m.faultPlace, x.fault());
        for (int p = 0; p < 8; p++) {
            int colour = below(8);
            int age = below(100);
            Checks.is("loss by '" + text + "'", m.loss(p, colour, age), x.loss(0, p, colour, age));
        }
    }

    // ---- a thread's life ----

    private static void life() {
        GlassThreads x = new GlassThreads();
        Model m = new Model();
        String text = thread(1 + below(10));
        int year = below(100);
        m.readThread(text, year);
        Checks.is("thread", 0, Checks.thread(x, text, year));
        String law = below(3) == 0 ? law() : "splice 35+colour+nth*age/9;plug 20*nth;noise age;";
        law = law.substring(0, Math.min(400, law.length()));
        Checks.is("law", m.readLaw(law) ? 0 : m.faultKind, Checks.law(x, law));
        int dead = below(12);
        x.dead(dead);
        for (int i = below(14); i > 0; i--) {
            happen(x, m);
        }
        for (int i = 0; i < 6; i++) {
            levels(x, m);
            echoes(x, m, dead);
        }
        Checks.is("tired", m.tired(2, 900, -900), x.tired(0, 2, 900, -900));
        readBack(x, m, dead);
    }

    private static void happen(GlassThreads x, Model m) {
        if (below(4) == 0) {
            x.evenings(below(3));
        }
        if (below(5) == 0 && !m.events.isEmpty()) {
            Model.Event e = m.events.get(below(m.events.size()));
            Checks.is("taken back", e.taken()[0] < 0, x.back(m.events.indexOf(e)));
            e.taken()[0] = e.taken()[0] < 0 ? x.count(0) : e.taken()[0];
            return;
        }
        int kind = below(4);
        int part = below(m.parts.size());
        Model.Part p = m.parts.get(part);
        int number = kind == 0 ? 1 + below(90) : kind == 1 ? below(p.first() + 1) : 0;
        int day = below(6) * 2000 + below(3);
        boolean fits = kind == 3 || p.kind().equals(kind == 2 ? "amp" : "run");
        int got = x.event(kind, 0, part, number, day);
        Checks.is("event", fits ? m.events.size() : -1, got);
        if (fits) {
            m.events.add(new Model.Event(kind, part, number, day, x.count(0), new int[] {-1}));
        }
    }

    private static void levels(GlassThreads x, Model m) {
        int[] when = {below(7) * 2000, below(x.count(0) + 1)};
        int part = below(m.parts.size());
        int colour = below(8);
        int sent = below(3000) - 2000;
        boolean end = below(2) == 0;
        Integer level = m.level(part, colour, sent, end, when);
        Checks.is("level", level == null ? -100000 : level, x.level(0, part, colour, sent, end, when[0], when[1]));
        Integer margin = m.margin(colour, sent, 77, when);
        Checks.is("margin", margin == null ? -1000000 : margin, x.margin(0, colour, sent, 77, when[0], when[1]));
    }

    private static void echoes(GlassThreads x, Model m, int dead) {
        int colour = below(8);
        int day = below(7) * 2000;
        int evening = below(x.count(0) + 1);
        boolean end = below(2) == 0;
        List<Model.Echo> row = m.echoes(colour, end, dead, day, evening);
        Checks.is("echoes", row.size(), x.echo(0, colour, end, day, evening));
        for (int i = 0; i < row.size(); i++) {
            Checks.is("distance", row.get(i).distance(), x.echoed(i, 0));
            Checks.is("size", row.get(i).size(), x.echoed(i, 1));
            Checks.is("kind", row.get(i).kind(), x.echoed(i, 2));
        }
        Checks.noSuch("no more", () -> x.echoed(row.size(), 0));
    }

    private static List<List<Integer>> plain(List<Model.Echo> row) {
        List<List<Integer>> all = new ArrayList<>();
        for (Model.Echo e : row) {
            all.add(List.of(e.distance(), e.size()));
        }
        return all;
    }

    /** Bends some runs of a straight thread, tells its rows, and reads them back. */
    private static void readBack(GlassThreads x, Model m, int dead) {
        int colour = below(8);
        x.look(0);
        List<int[]> suspects = new ArrayList<>();
        for (int i = below(7); i > 0; i--) {
            int part = below(m.parts.size());
            int size = 30 + below(30);
            boolean again = suspects.stream().anyMatch(s -> s[0] == part);
            boolean fits = m.parts.get(part).kind().equals("run") && !again;
            int got = x.suspect(part, size);
            suspects.add(new int[] {part, size});
            if (!fits) {
                suspects.remove(suspects.size() - 1);
            }
            Checks.is("suspect", fits ? suspects.size() : -1, got);
        }
        int truth = below(1 << suspects.size());
        int sides = below(4);
        List<List<List<Integer>>> told = new ArrayList<>();
        for (int side = 0; side < 2; side++) {
            told.add((sides >> side & 1) == 0 ? null : tell(x, bent(m, suspects, truth), colour, side == 1, dead));
        }
        int[] due = {0, -1, -1, 0};
        for (int set = 0; set < 1 << suspects.size(); set++) {
            boolean agrees = true;
            for (int side = 0; side < 2; side++) {
                Model bent = bent(m, suspects, set);
                agrees &= told.get(side) == null
                        || told.get(side).equals(plain(bent.echoes(colour, side == 1, dead, 0, 0)));
            }
            if (agrees) {
                due[0]++;
                due[1] = due[1] < 0 ? set : due[1];
                due[2] &= set;
                due[3] |= set;
            }
        }
        Checks.is("sets", due[0], x.readBack(colour));
        Checks.is("first", due[1], x.found(0));
        Checks.is("in all", due[0] == 0 ? 0 : due[2], x.found(1));
        Checks.is("hidden", due[3] & ~due[2], x.found(2));
    }

    private static Model bent(Model m, List<int[]> suspects, int set) {
        Model bent = new Model();
        bent.parts = m.parts;
        bent.law = m.law;
        for (int i = 0; i < suspects.size(); i++) {
            if ((set >> i & 1) == 1) {
                bent.events.add(new Model.Event(0, suspects.get(i)[0], suspects.get(i)[1], 0, 0, new int[] {-1}));
            }
        }
        return bent;
    }

    /** Lays the row into sheets of its own (a row of a sheet has 8 echoes at most) and tells it. */
    private static List<List<Integer>> tell(GlassThreads x, Model bent, int colour, boolean end, int dead) {
        List<Model.Echo> row = bent.echoes(colour, end, dead, 0, 0);
        if (row.size() > 8) {
            return null;
        }
        int sheet = x.sheet(2, 24);
        for (int i = 0; i < row.size(); i++) {
            x.write(sheet, 3 * i, row.get(i).distance());
            x.write(sheet, 3 * i + 1, row.get(i).size());
            x.write(sheet, 3 * i + 2, row.get(i).kind());
        }
        Checks.is("a row of a sheet", 0, x.rowOf(sheet, 0, row.size()));
        Checks.is("told", true, x.seen(end));
        return plain(row);
    }
}
