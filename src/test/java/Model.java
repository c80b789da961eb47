import java.util.ArrayDeque;
import java.util.ArrayList;
import java.util.Collections;
import java.util.Comparator;
import java.util.Deque;
import java.util.HashMap;
import java.util.List;
import java.util.Map;
import java.util.Set;
import java.util.function.IntBinaryOperator;
import java.util.regex.Matcher;
import java.util.regex.Pattern;

/** The document's texts, levels and echoes once more, built in another way than the program, for RandomTest. */
final class Model {
    record Token(String text, int place) {
        boolean isWord() {
            return text.matches("[a-z]+");
        }

        boolean isNumber() {
            return text.matches("[0-9]+");
        }
    }

    record Part(String kind, int first, int second) {
    }

    record Event(int kind, int part, int number, int day, int told, int[] taken) {
    }

    record Echo(int distance, int size, int kind) {
    }

    interface Worth {
        int of(Map<String, Integer> values);
    }

    static final Set<String> VALUES = Set.of("colour", "age", "length", "size", "nth");
    private static final Pattern TOKEN = Pattern.compile("[a-z]+|[0-9]+|[^ \\n]", Pattern.DOTALL);

    int faultKind;
    int faultPlace;
    Map<String, Worth> law = new HashMap<>();
    List<Part> parts = new ArrayList<>();
    List<Event> events = new ArrayList<>();
    int year;

    static List<Token> tokens(String text) {
        List<Token> all = new ArrayList<>();
        Matcher m = TOKEN.matcher(text);
        while (m.find()) {
            all.add(new Token(m.group(), m.start()));
        }
        all.add(new Token("", text.length()));
        return all;
    }

    private boolean fault(int kind, Token at) {
        faultKind = kind;
        faultPlace = at.place;
        return false;
    }

    // ---- threads ----

    boolean readThread(String text, int laid) {
        Deque<Token> rest = new ArrayDeque<>(tokens(text));
        List<Part> read = new ArrayList<>();
        do {
            Token word = rest.poll();
            int[][] bounds;
            switch (word.text) {
                case "run": bounds = new int[][] {{1, 9999}}; break;
                case "splice": bounds = new int[][] {}; break;
                case "plug": bounds = new int[][] {{0, 99}}; break;
                case "amp": bounds = new int[][] {{0, 40000}, {0, 30000}}; break;
                default: return fault(1, word);
            }
            long amps = read.stream().filter(p -> p.kind.equals("amp")).count();
            if (read.size() == 24 || word.text.equals("amp") && amps == 6) {
                return fault(2, word);
            }
            int[] numbers = new int[2];
            for (int i = 0; i < bounds.length; i++) {
                Token t = rest.poll();
                if (!t.isNumber()) {
                    return fault(1, t);
                }
                if (t.text.length() > 5 || Integer.parseInt(t.text) < bounds[i][0]
                        || Integer.parseInt(t.text) > bounds[i][1]) {
                    return fault(2, t);
                }
                numbers[i] = Integer.parseInt(t.text);
            }
            Token end = rest.poll();
            if (!end.text.equals(";")) {
                return fault(1, end);
            }
            read.add(new Part(word.text, numbers[0], numbers[1]));
        } while (!rest.peek().text.isEmpty());
        parts = read;
        year = laid;
        return true;
    }

    // ---- laws: operators wait on a stack ----

    private final Deque<String> waiting = new ArrayDeque<>();
    private final Deque<Worth> made = new ArrayDeque<>();

    boolean readLaw(String text) {
        Deque<Token> rest = new ArrayDeque<>(tokens(text));
        Map<String, Worth> read = new HashMap<>();
        int clauses = 0;
        while (!rest.peek().text.isEmpty()) {
            Token word = rest.poll();
            if (!Set.of("run", "splice", "plug", "noise").contains(word.text)) {
                return fault(1, word);
            }
            clauses++;
            if (clauses == 17) {
                return fault(2, word);
            }
            if (!readExpression(rest)) {
                return false;
            }
            read.put(word.text, made.pop());
        }
        law = read;
        return true;
    }

    private boolean readExpression(Deque<Token> rest) {
        waiting.clear();
        made.clear();
        boolean wantPoint = true;
        boolean first = true;
        boolean mayNot = true;
        int depth = 0;
        int nots = 0;
        while (true) {
            Token t = rest.poll();
            if (wantPoint) {
                if (first && depth == 6) {
                    return fault(t.isWord() || t.isNumber() || t.text.equals("(") ? 2 : 1, t);
                }
                first = false;
                if (mayNot && t.text.equals("not")) {
                    nots++;
                    if (nots == 7) {
                        return fault(2, t);
                    }
                    waiting.push("not");
                    continue;
                }
                nots = 0;
                if (t.text.equals("(")) {
                    waiting.push("(");
                    depth++;
                    first = true;
                    mayNot = true;
                    continue;
                }
                if (!isPoint(t)) {
                    return false;
                }
                wantPoint = false;
            } else if (t.text.equals(";") && depth == 0) {
                settle(0);
                return true;
            } else if (t.text.equals(")") && depth > 0) {
                settle(0);
                waiting.pop();
                depth--;
            } else {
                int rank = rank(t.text);
                if (rank == 0 || t.text.equals("not")) {
                    return fault(1, t);
                }
                settle(rank == 4 ? 5 : rank);
                if (rank == 4 && !waiting.isEmpty() && rank(waiting.peek()) == 4) {
                    return fault(1, t);
                }
                waiting.push(t.text);
                wantPoint = true;
                mayNot = rank <= 2;
            }
        }
    }

    private boolean isPoint(Token t) {
        if (t.isNumber()) {
            if (t.text.length() > 5) {
                return fault(2, t);
            }
            int number = Integer.parseInt(t.text);
            made.push(v -> number);
            return true;
        }
        if (!t.isWord()) {
            return fault(1, t);
        }
        if (!VALUES.contains(t.text)) {
            return fault(3, t);
        }
        made.push(v -> v.get(t.text));
        return true;
    }

    private static int rank(String sign) {
        switch (sign) {
            case "or": return 1;
            case "and": return 2;
            case "not": return 3;
            case "<": case "=": return 4;
            case "+": case "-": return 5;
            case "*": case "/": return 6;
            default: return 0;
        }
    }

    private void settle(int rank) {
        while (!waiting.isEmpty() && !waiting.peek().equals("(") && rank(waiting.peek()) >= rank) {
            String sign = waiting.pop();
            Worth right = made.pop();
            if (sign.equals("not")) {
                made.push(v -> right.of(v) == 0 ? 1 : 0);
            } else {
                Worth left = made.pop();
                IntBinaryOperator join = join(sign);
                made.push(v -> join.applyAsInt(left.of(v), right.of(v)));
            }
        }
    }

    private static IntBinaryOperator join(String sign) {
        switch (sign) {
            case "or": return (a, b) -> a != 0 || b != 0 ? 1 : 0;
            case "and": return (a, b) -> a != 0 && b != 0 ? 1 : 0;
            case "<": return (a, b) -> a < b ? 1 : 0;
            case "=": return (a, b) -> a == b ? 1 : 0;
            case "+": return (a, b) -> a + b;
            case "-": return (a, b) -> a - b;
            case "*": return (a, b) -> a * b;
            default: return (a, b) -> b == 0 ? 0 : (int) ((long) a / b);
        }
    }

    int loss(int part, int colour, int age) {
        Part p = parts.get(part);
        boolean run = p.kind.equals("run");
        Worth worth = law.get(p.kind.equals("amp") ? "noise" : p.kind);
        if (worth == null) {
            return Map.of("run", 2 * p.first, "splice", 50, "plug", 300, "amp", 200).get(p.kind);
        }
        long nth = parts.subList(0, part + 1).stream().filter(o -> o.kind.equals(p.kind)).count();
        int given = worth.of(Map.of("colour", colour, "age", age, "length", run ? p.first : 0,
                "size", run ? 0 : p.first, "nth", (int) nth));
        return given < 0 ? 0 : Math.min(given, 99999);
    }

    // ---- levels ----

    /** Of a part on a day as known: what bends lose, where it is cut (or -1), whether it is off. */
    int[] state(int part, int day, int evening) {
        int[] s = {0, -1, 0};
        events.stream().filter(e -> e.part == part && e.day <= day && e.told <= evening)
                .filter(e -> e.taken[0] < 0 || e.taken[0] > evening)
                .sorted(Comparator.comparingInt(e -> e.day))
                .forEach(e -> {
                    switch (e.kind) {
                        case 0: s[0] += e.number; break;
                        case 1: s[1] = e.number; break;
                        case 2: s[2] = 1; break;
                        default: s[0] = 0; s[1] = -1; s[2] = 0;
                    }
                });
        return s;
    }

    int age(int day) {
        return Math.max(0, day / 365 - year);
    }

    private List<Integer> order(boolean end) {
        List<Integer> order = new ArrayList<>();
        for (int i = 0; i < parts.size(); i++) {
            order.add(i);
        }
        if (end) {
            Collections.reverse(order);
        }
        return order;
    }

    /** Null: nothing comes. */
    Integer level(int part, int colour, int sent, boolean end, int[] when) {
        int level = sent;
        for (int i : order(end)) {
            Part p = parts.get(i);
            int[] s = when == null ? new int[] {0, -1, 0} : state(i, when[0], when[1]);
            if (s[1] >= 0) {
                return null;
            }
            if (!p.kind.equals("amp")) {
                level -= loss(i, colour, when == null ? 0 : age(when[0])) + s[0];
            } else if (s[2] == 1) {
                level -= 5000;
            } else {
                level = Math.max(level, Math.min(level + p.first, p.second));
            }
            if (i == part) {
                break;
            }
        }
        return level;
    }

    /** Null: nothing comes. */
    Integer margin(int colour, int sent, int need, int[] when) {
        Integer level = level(parts.size() - 1, colour, sent, false, when);
        if (level == null) {
            return null;
        }
        int noise = 0;
        for (int i = 0; i < parts.size(); i++) {
            if (parts.get(i).kind.equals("amp") && state(i, when[0], when[1])[2] == 0) {
                noise += loss(i, colour, age(when[0]));
            }
        }
        return level - need - noise;
    }

    int tired(int colour, int sent, int need) {
        List<Event> kept = events;
        events = List.of();
        int found = -1;
        for (int y = 99; y >= year; y--) {
            if (margin(colour, sent, need, new int[] {365 * y, 0}) < 0) {
                found = y;
            }
        }
        events = kept;
        return found;
    }

    // ---- echoes ----

    List<Echo> echoes(int colour, boolean end, int dead, int day, int evening) {
        List<Echo> steps = new ArrayList<>();
        Map<Echo, Integer> thrown = new HashMap<>();
        int whole = 0;
        for (int i : order(end)) {
            Part p = parts.get(i);
            if (p.kind.equals("amp")) {
                break;
            }
            if (!p.kind.equals("run")) {
                Echo e = new Echo(whole, loss(i, colour, age(day)), p.kind.equals("plug") ? 2 : 1);
                steps.add(e);
                if (p.kind.equals("plug")) {
                    // of like plugs at one distance only the first can be seen
                    thrown.putIfAbsent(e, p.first);
                }
                continue;
            }
            int[] s = state(i, day, evening);
            int cut = s[1] < 0 ? Integer.MAX_VALUE : end ? p.first - s[1] : s[1];
            if (s[0] > 0 && p.first / 2 <= cut) {
                steps.add(new Echo(whole + p.first / 2, s[0], 0));
            }
            if (s[1] >= 0) {
                whole += cut;
                steps.add(new Echo(whole, 0, 3));
                break;
            }
            whole += p.first;
        }
        List<Echo> seen = new ArrayList<>();
        for (Echo e : steps) {
            Echo ahead = seen.isEmpty() ? null : seen.get(seen.size() - 1);
            if (ahead == null || e.distance > ahead.distance + dead && (e.kind == 3 || e.size >= 40)) {
                seen.add(e);
            }
        }
        List<Echo> row = new ArrayList<>(seen);
        for (Echo e : seen) {
            int twice = 2 * e.distance;
            if (e.kind == 2 && thrown.get(e) >= 10 && twice > 0 && twice < whole
                    && seen.stream().noneMatch(o -> o.distance >= twice - dead && o.distance <= twice + dead)) {
                row.add(new Echo(twice, 1, 4));
            }
        }
        row.sort(Comparator.comparingInt(Echo::distance));
        return row;
    }
}
