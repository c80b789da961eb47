/**
 * Promises 8 to 13 at their bounds. Above each test stands the sentence of the document that it is
 * for; it asks on the bound, just below it and just above it.
 */
public final class LevelBoundsTest {
    private static final int NONE = GlassThreads.NONE;
    private static final int DARK = -100000;
    private static final int NO_MARGIN = -1000000;
    private static final int LEAST = Integer.MIN_VALUE;
    private static final int MOST = Integer.MAX_VALUE;

    public static void main(String[] args) {
        eveningsGoBy();
        bends();
        cuts();
        offAndMended();
        daysOfEvents();
        howManyEvents();
        refusedEvents();
        takenBack();
        asKnown();
        daysOfOneThread();
        byDaysThenByNumber();
        mended();
        eachItsThread();
        ampsAndTheirMost();
        cutsOnTheWay();
        years();
        levelsSent();
        colours();
        daysAndEvenings();
        partsOfALevel();
        marginsAndNoise();
        tiredYears();
        Checks.end();
    }

    private static GlassThreads with(String text, int year) {
        GlassThreads x = new GlassThreads();
        Checks.is("thread '" + text + "'", 0, Checks.thread(x, text, year));
        return x;
    }

    private static int levelOf(GlassThreads x, int part, int day) {
        return x.level(0, part, 0, 0, false, day, x.count(0));
    }

    // "EVENINGS from 0 to 999"; "IllegalArgumentException: n is below 0, or it would be above 999"
    private static void eveningsGoBy() {
        GlassThreads x = new GlassThreads();
        Checks.is("tonight", 0, x.evenings(0));
        Checks.illegal("-1", () -> x.evenings(-1));
        Checks.illegal("1000", () -> x.evenings(1000));
        Checks.illegal("the least", () -> x.evenings(LEAST));
        Checks.illegal("the most", () -> x.evenings(MOST));
        Checks.is("still 0", 0, x.count(0));
        Checks.is("998", 998, x.evenings(998));
        Checks.illegal("1000 by two", () -> x.evenings(2));
        Checks.illegal("no way back", () -> x.evenings(-1));
        Checks.is("still 998", 998, x.count(0));
        Checks.is("999", 999, x.evenings(1));
        Checks.is("it stays", 999, x.evenings(0));
        Checks.illegal("1000", () -> x.evenings(1));
        Checks.illegal("wraps", () -> x.evenings(MOST - 998));
        Checks.is("still 999", 999, x.count(0));
        Checks.is("all at once", 999, new GlassThreads().evenings(999));
    }

    // "0 BENT (a RUN; it loses so much more, 1 to 20000)"
    private static void bends() {
        GlassThreads x = with("run 10; splice; plug 5; amp 100 100;", 0);
        int[] bad = {-1, 0, 20001, LEAST, MOST};
        for (int number : bad) {
            Checks.is("bend " + number, NONE, x.event(0, 0, 0, number, 0));
        }
        for (int part = 1; part < 4; part++) {
            Checks.is("bend of part " + part, NONE, x.event(0, 0, part, 1, 0));
        }
        Checks.is("no bend", -20, levelOf(x, 0, 0));
        int[] good = {1, 2, 19999, 20000};
        int all = 20;
        for (int i = 0; i < 4; i++) {
            Checks.is("bend " + good[i], i, x.event(0, 0, 0, good[i], 0));
            all += good[i];
            Checks.is("bends add up", -all, levelOf(x, 0, 0));
        }
    }

    // "1 CUT (a RUN, so far from its beginning, 0 to its length)"
    private static void cuts() {
        int[] lengths = {1, 10, 9999};
        for (int length : lengths) {
            GlassThreads x = with("run " + length + "; splice; plug 99; amp 100 100;", 0);
            int[] bad = {-1, length + 1, LEAST, MOST};
            for (int number : bad) {
                Checks.is("cut " + number + " of " + length, NONE, x.event(1, 0, 0, number, 0));
            }
            for (int part = 1; part < 4; part++) {
                Checks.is("cut of part " + part, NONE, x.event(1, 0, part, 0, 0));
            }
            Checks.is("not cut", -2 * length, levelOf(x, 0, 0));
            Checks.is("cut at 0", 0, x.event(1, 0, 0, 0, 0));
            Checks.is("cut at 1", 1, x.event(1, 0, 0, 1, 0));
            Checks.is("cut at the last but one", 2, x.event(1, 0, 0, length - 1, 0));
            Checks.is("cut at its length", 3, x.event(1, 0, 0, length, 0));
            Checks.is("dark", DARK, levelOf(x, 0, 0));
        }
    }

    // "2 OFF (an AMP; 0), 3 MENDED (any; 0: ..)"
    private static void offAndMended() {
        GlassThreads x = with("run 10; splice; plug 5; amp 100 30000;", 0);
        int[] bad = {-1, 1, LEAST, MOST};
        for (int number : bad) {
            Checks.is("off " + number, NONE, x.event(2, 0, 3, number, 0));
            for (int part = 0; part < 4; part++) {
                Checks.is("part " + part + " mended " + number, NONE, x.event(3, 0, part, number, 0));
            }
        }
        for (int part = 0; part < 3; part++) {
            Checks.is("off of part " + part, NONE, x.event(2, 0, part, 0, 0));
        }
        Checks.is("on", -270, levelOf(x, 3, 0));
        Checks.is("off", 0, x.event(2, 0, 3, 0, 0));
        Checks.is("it is off", -5370, levelOf(x, 3, 0));
        for (int part = 0; part < 4; part++) {
            Checks.is("mended", 1 + part, x.event(3, 0, part, 0, 0));
        }
        Checks.is("on again", -270, levelOf(x, 3, 0));
    }

    // "DAYS from 0 to 36499"; "NONE: .. the DAY is not as told"
    private static void daysOfEvents() {
        GlassThreads x = with("run 10; amp 1 1;", 50);
        int[] bad = {-1, 36500, LEAST, MOST};
        for (int day : bad) {
            Checks.is("bent on day " + day, NONE, x.event(0, 0, 0, 1, day));
            Checks.is("cut on day " + day, NONE, x.event(1, 0, 0, 1, day));
            Checks.is("off on day " + day, NONE, x.event(2, 0, 1, 0, day));
            Checks.is("mended on day " + day, NONE, x.event(3, 0, 0, 0, day));
        }
        Checks.is("none so far", 0, x.count(2));
        int[] good = {0, 1, 36498, 36499};
        for (int i = 0; i < 4; i++) {
            Checks.is("day " + good[i], i, x.event(0, 0, 0, 1, good[i]));
        }
        Checks.is("on the first day", -21, levelOf(x, 0, 0));
        Checks.is("on the second day", -22, levelOf(x, 0, 1));
        Checks.is("on the last day but two", -22, levelOf(x, 0, 36497));
        Checks.is("on the last day but one", -23, levelOf(x, 0, 36498));
        Checks.is("on the last day", -24, levelOf(x, 0, 36499));
    }

    // "EVENTS, numbered from 0 on, at most 120"; "NONE: there are 120"
    private static void howManyEvents() {
        GlassThreads x = with("run 10; amp 1 1;", 0);
        for (int i = 0; i < 120; i++) {
            Checks.is("event " + i, i, x.event(i % 2 == 0 ? 0 : 3, 0, 0, i % 2 == 0 ? 7 : 0, i));
            Checks.is("how many", i + 1, x.count(2));
        }
        for (int kind = 0; kind < 4; kind++) {
            Checks.is("kind " + kind + " is one too many", NONE, x.event(kind, 0, kind == 2 ? 1 : 0, kind == 0 ? 1 : 0, 0));
        }
        Checks.is("120", 120, x.count(2));
        Checks.noSuch("no event 120", () -> x.back(120));
        Checks.is("the 119th bends", -27, levelOf(x, 0, 118));
        Checks.is("the 120th mends", -20, levelOf(x, 0, 119));
        Checks.is("the 120th is taken back", true, x.back(119));
        Checks.is("it is bent then", -27, levelOf(x, 0, 119));
        Checks.is("there are 120 even so", NONE, x.event(0, 0, 0, 1, 0));
    }

    // "NoSuchElementException: also no such kind of EVENT"; "no such THREAD, PART (as everywhere)"
    private static void refusedEvents() {
        GlassThreads x = with("run 10; amp 1 1;", 0);
        int[] kinds = {-1, 4, LEAST, MOST};
        for (int kind : kinds) {
            Checks.noSuch("kind " + kind, () -> x.event(kind, 0, 0, 0, 0));
            Checks.noSuch("kind " + kind + " ahead of its day", () -> x.event(kind, 0, 0, -1, -1));
        }
        for (int k = 0; k < 4; k++) {
            int kind = k;
            Checks.noSuch("thread 1", () -> x.event(kind, 1, 0, 0, 0));
            Checks.noSuch("thread -1, ahead of its day", () -> x.event(kind, -1, 0, -1, -1));
            Checks.noSuch("part 2", () -> x.event(kind, 0, 2, 0, 0));
            Checks.noSuch("part NONE, ahead of its day", () -> x.event(kind, 0, NONE, -1, -1));
        }
        Checks.is("no event", 0, x.count(2));
    }

    // "An EVENT is TAKEN BACK: true. False: it was. NoSuchElementException: no such EVENT."
    private static void takenBack() {
        GlassThreads x = with("run 10;", 0);
        Checks.noSuch("none yet", () -> x.back(0));
        x.event(0, 0, 0, 5, 0);
        x.event(0, 0, 0, 6, 0);
        Checks.noSuch("event 2", () -> x.back(2));
        Checks.noSuch("event -1", () -> x.back(-1));
        Checks.noSuch("event NONE at its least", () -> x.back(LEAST));
        Checks.is("the last", true, x.back(1));
        Checks.is("it was", false, x.back(1));
        Checks.is("the other one stays", -25, levelOf(x, 0, 0));
        Checks.is("the first", true, x.back(0));
        Checks.is("it was", false, x.back(0));
        Checks.is("both are there", 2, x.count(2));
        Checks.is("the next one's number", 2, x.event(0, 0, 0, 7, 0));
        Checks.is("it bends", -27, levelOf(x, 0, 0));
    }

    // "AS KNOWN on EVENING k: told on k or ahead, not TAKEN BACK on k or ahead"
    private static void asKnown() {
        GlassThreads x = with("run 10;", 0);
        x.evenings(4);
        x.event(0, 0, 0, 100, 7);
        x.evenings(3);
        x.back(0);
        x.evenings(1);
        x.event(0, 0, 0, 900, 7);
        x.back(1);
        x.evenings(1);
        int[] due = {-20, -20, -20, -20, -120, -120, -120, -20, -20, -20};
        for (int k = 0; k <= 9; k++) {
            Checks.is("level on evening " + k, due[k], x.level(0, 0, 0, 0, false, 7, k));
            Checks.is("margin on evening " + k, due[k], x.margin(0, 0, 0, 0, 7, k));
            x.echo(0, 0, false, 7, k);
            int evening = k;
            if (due[k] == -120) {
                Checks.is("echo on evening " + k, 100, x.echoed(0, 1));
            } else {
                Checks.noSuch("echo on evening " + k, () -> x.echoed(0, evening % 3));
            }
        }
    }

    // "On a DAY a PART is as its EVENTS on that DAY or ahead make it"
    private static void daysOfOneThread() {
        GlassThreads x = with("run 10; amp 100 30000;", 0);
        x.event(0, 0, 0, 5, 10);
        x.event(2, 0, 1, 0, 20);
        x.event(3, 0, 0, 0, 30);
        x.event(3, 0, 1, 0, 40);
        x.event(1, 0, 0, 0, 50);
        int[] days = {9, 10, 11, 19, 20, 21, 29, 30, 31, 39, 40, 41, 49, 50, 51};
        int[] due = {80, 75, 75, 75, -5025, -5025, -5025, -5020, -5020, -5020, 80, 80, 80, DARK, DARK};
        for (int i = 0; i < days.length; i++) {
            Checks.is("level on day " + days[i], due[i], levelOf(x, 1, days[i]));
        }
    }

    // "by DAYS, of like ones by number; several BENDS add up, of several CUTS the last one counts"
    private static void byDaysThenByNumber() {
        GlassThreads x = with("run 10; splice;", 0);
        x.event(1, 0, 0, 3, 20);
        x.event(1, 0, 0, 4, 19);
        x.event(1, 0, 0, 5, 21);
        x.event(1, 0, 0, 6, 20);
        x.event(1, 0, 0, 7, 21);
        x.event(1, 0, 0, 8, 19);
        int[] due = {8, 6, 7, 7};
        for (int i = 0; i < 4; i++) {
            x.echo(0, 0, false, 19 + i, 0);
            Checks.is("where it is cut on day " + (19 + i), due[i], x.echoed(0, 0));
        }
        x.back(4);
        x.echo(0, 0, false, 21, 0);
        Checks.is("the one ahead of it counts again", 5, x.echoed(0, 0));
        x.event(3, 0, 0, 0, 20);
        x.event(0, 0, 0, 70, 20);
        x.event(0, 0, 0, 30, 19);
        x.event(0, 0, 0, 50, 20);
        Checks.is("mended behind the cuts, bent behind that", -140, levelOf(x, 0, 20));
        Checks.is("the day ahead", DARK, levelOf(x, 0, 19));
        Checks.is("the next day", DARK, levelOf(x, 0, 21));
    }

    // "the RUN isn't BENT and isn't CUT, the AMP on"
    private static void mended() {
        GlassThreads x = with("run 10; run 20; amp 5 30000; amp 6 30000; splice;", 0);
        for (int part = 0; part < 2; part++) {
            x.event(0, 0, part, 500, 1);
            x.event(0, 0, part, 600, 1);
            x.event(2, 0, 2 + part, 0, 1);
        }
        Checks.is("all of it", -60 - 2200 - 10000 - 50, levelOf(x, 4, 1));
        x.event(3, 0, 0, 0, 1);
        Checks.is("one run mended", -60 - 1100 - 10000 - 50, levelOf(x, 4, 1));
        x.event(3, 0, 3, 0, 1);
        Checks.is("one amp mended", -60 - 1100 - 5000 + 6 - 50, levelOf(x, 4, 1));
        x.event(3, 0, 4, 0, 1);
        Checks.is("a splice mended", -60 - 1100 - 5000 + 6 - 50, levelOf(x, 4, 1));
        x.event(1, 0, 0, 5, 1);
        Checks.is("cut", DARK, levelOf(x, 4, 1));
        x.event(3, 0, 1, 0, 1);
        Checks.is("the other one mended", DARK, levelOf(x, 4, 1));
        x.event(3, 0, 0, 0, 1);
        Checks.is("no cut, no bend", -60 - 5000 + 6 - 50, levelOf(x, 4, 1));
    }

    // "of a PART of a THREAD"
    private static void eachItsThread() {
        GlassThreads x = new GlassThreads();
        for (int i = 0; i < 8; i++) {
            Checks.thread(x, "run 10; run 10;", 0);
        }
        for (int i = 0; i < 8; i++) {
            x.event(0, i, i % 2, 100 + i, 0);
        }
        for (int i = 0; i < 8; i++) {
            Checks.is("thread " + i, -140 - i, x.level(i, 1, 0, 0, false, 0, 0));
            Checks.is("its first part", i % 2 == 0 ? -120 - i : -20, x.level(i, 0, 0, 0, false, 0, 0));
        }
        x.event(1, 7, 0, 0, 0);
        Checks.is("cut", NO_MARGIN, x.margin(7, 0, 0, 0, 0, 0));
        Checks.is("not cut", -146, x.margin(6, 0, 0, 0, 0, 0));
    }

    // "it lifts the level by its gain, but not above its most (what is above that already stays); .. OFF takes 5000"
    private static void ampsAndTheirMost() {
        GlassThreads x = with("amp 300 1000;", 0);
        int[] sent = {699, 700, 701, 999, 1000, 1001, 1002, -60000, 30000};
        int[] due = {999, 1000, 1000, 1000, 1000, 1001, 1002, -59700, 30000};
        for (int i = 0; i < sent.length; i++) {
            Checks.is("sent at " + sent[i], due[i], x.level(0, 0, 0, sent[i], i % 2 == 0, 0, 0));
        }
        x.event(2, 0, 0, 0, 5);
        for (int s : sent) {
            Checks.is("off, sent at " + s, s - 5000, x.level(0, 0, 0, s, s % 2 == 0, 5, 0));
        }
        GlassThreads y = with("amp 0 0; amp 40000 30000;", 0);
        Checks.is("no gain", -1, y.level(0, 0, 0, -1, false, 0, 0));
        Checks.is("no gain, at its most", 0, y.level(0, 0, 0, 0, false, 0, 0));
        Checks.is("no gain, above its most", 1, y.level(0, 0, 0, 1, false, 0, 0));
        Checks.is("the greatest gain", 30000 - 1, y.level(0, 1, 0, -10001, true, 0, 0));
        Checks.is("up to the greatest most", 30000, y.level(0, 1, 0, -10000, true, 0, 0));
        Checks.is("not above it", 30000, y.level(0, 1, 0, -9999, true, 0, 0));
    }

    // "a RUN that is CUT lets nothing through"; "-100000: nothing comes"; "-1000000: nothing comes"
    private static void cutsOnTheWay() {
        GlassThreads x = with("splice; run 10; plug 5; run 20; splice;", 0);
        int[] ahead = {-50, -70, -370, -410, -460};
        int[] round = {-460, -410, -390, -90, -50};
        for (int cut = 1; cut <= 3; cut += 2) {
            x.event(1, 0, cut, cut == 1 ? 0 : 20, 8);
            for (int part = 0; part < 5; part++) {
                Checks.is("before", ahead[part], x.level(0, part, 0, 0, false, 7, 0));
                Checks.is("before, from the end", round[part], x.level(0, part, 0, 0, true, 7, 0));
                Checks.is("behind part " + part + ", cut " + cut, part < cut ? ahead[part] : DARK,
                        x.level(0, part, 0, 0, false, 8, 0));
                Checks.is("from the end, part " + part + ", cut " + cut, part > cut ? round[part] : DARK,
                        x.level(0, part, 0, 0, true, 8, 0));
            }
            Checks.is("no margin", NO_MARGIN, x.margin(0, 0, 30000, -60000, 8, 0));
            Checks.is("a margin the day ahead", 30000 - 460 + 60000, x.margin(0, 0, 30000, -60000, 7, 0));
            x.event(3, 0, cut, 0, 8);
        }
    }

    // "The age is that DAY's YEAR less the THREAD's (0, if below)"; "365 a YEAR"
    private static void years() {
        GlassThreads x = with("splice; amp 0 0;", 10);
        Checks.law(x, "splice 1000+age; noise 100+age;");
        int[] days = {0, 364, 365, 9 * 365, 10 * 365 - 1, 10 * 365, 10 * 365 + 1, 11 * 365 - 1, 11 * 365, 12 * 365 - 1,
            12 * 365, 36499};
        int[] ages = {0, 0, 0, 0, 0, 0, 0, 0, 1, 1, 2, 89};
        for (int i = 0; i < days.length; i++) {
            Checks.is("level on day " + days[i], -1000 - ages[i], x.level(0, 0, 0, 0, false, days[i], 0));
            Checks.is("margin on day " + days[i], -1100 - 2 * ages[i], x.margin(0, 0, 0, 0, days[i], 0));
            x.echo(0, 0, false, days[i], 0);
            Checks.is("echo on day " + days[i], 1000 + ages[i], x.echoed(0, 1));
            x.lamps(0, 1, -3500, 0, 0, 0, 0, days[i]);
            Checks.is("lamps on day " + days[i], -1100 - 2 * ages[i], x.lamps(0, 1, -3500, 0, 0, 0, 0, days[i]));
        }
        GlassThreads y = with("splice;", 99);
        Checks.law(y, "splice 1000+age;");
        Checks.is("never older than new", -1000, y.level(0, 0, 0, 0, false, 36499, 0));
        Checks.is("nor the day ahead", -1000, y.level(0, 0, 0, 0, false, 36134, 0));
    }

    // "a level (-60000 to 30000)"; "a need (-60000 to 30000)"; "the level is not as told"
    private static void levelsSent() {
        GlassThreads x = with("run 10;", 0);
        int[] good = {-60000, -59999, 29999, 30000};
        for (int g : good) {
            Checks.is("sent at " + g, g - 20, x.level(0, 0, 0, g, false, 0, 0));
            Checks.is("from the end at " + g, g - 20, x.level(0, 0, 0, g, true, 0, 0));
            Checks.is("margin, sent at " + g, g - 20, x.margin(0, 0, g, 0, 0, 0));
            Checks.is("margin, need " + g, -20 - g, x.margin(0, 0, 0, g, 0, 0));
            Checks.is("tired, sent at " + g, g < 20 ? 0 : NONE, x.tired(0, 0, g, 0));
            Checks.is("tired, need " + g, g > -20 ? 0 : NONE, x.tired(0, 0, 0, g));
        }
        int[] bad = {-60001, 30001, LEAST, MOST};
        for (int b : bad) {
            Checks.illegal("sent at " + b, () -> x.level(0, 0, 0, b, false, 0, 0));
            Checks.illegal("margin, sent at " + b, () -> x.margin(0, 0, b, 0, 0, 0));
            Checks.illegal("margin, need " + b, () -> x.margin(0, 0, 0, b, 0, 0));
            Checks.illegal("tired, sent at " + b, () -> x.tired(0, 0, b, 0));
            Checks.illegal("tired, need " + b, () -> x.tired(0, 0, 0, b));
        }
    }

    // "no such colour (as everywhere)"
    private static void colours() {
        GlassThreads x = with("splice;", 0);
        Checks.law(x, "splice colour;");
        for (int colour = 0; colour < 8; colour += 7) {
            Checks.is("level", -colour, x.level(0, 0, colour, 0, false, 0, 0));
            Checks.is("margin", -colour, x.margin(0, colour, 0, 0, 0, 0));
            Checks.is("tired", NONE, x.tired(0, colour, colour, 0));
            Checks.is("tired a step lower", 0, x.tired(0, colour, colour - 1, 0));
        }
        int[] bad = {-1, 8, LEAST, MOST};
        for (int colour : bad) {
            Checks.noSuch("level of colour " + colour, () -> x.level(0, 0, colour, 0, false, 0, 0));
            Checks.noSuch("ahead of level and evening", () -> x.level(0, 0, colour, 30001, false, 0, 1));
            Checks.noSuch("margin of colour " + colour, () -> x.margin(0, colour, 0, 0, 0, 0));
            Checks.noSuch("ahead of need and evening", () -> x.margin(0, colour, 0, 30001, 0, 1));
            Checks.noSuch("tired of colour " + colour, () -> x.tired(0, colour, 0, 0));
            Checks.noSuch("ahead of the level sent", () -> x.tired(0, colour, 30001, 0));
        }
    }

    // "no such DAY (as everywhere)"; "no such EVENING (0 to TONIGHT)"
    private static void daysAndEvenings() {
        GlassThreads x = with("splice;", 0);
        x.evenings(3);
        int[] days = {-1, 36500, LEAST, MOST};
        for (int day : days) {
            Checks.noSuch("level on day " + day, () -> x.level(0, 0, 0, 0, false, day, 0));
            Checks.noSuch("ahead of level and evening", () -> x.level(0, 0, 0, 30001, false, day, 4));
            Checks.noSuch("margin on day " + day, () -> x.margin(0, 0, 0, 0, day, 0));
            Checks.noSuch("ahead of need and evening", () -> x.margin(0, 0, 0, 30001, day, 4));
        }
        int[] evenings = {-1, 4, LEAST, MOST};
        for (int k : evenings) {
            Checks.illegal("level on evening " + k, () -> x.level(0, 0, 0, 0, false, 0, k));
            Checks.illegal("margin on evening " + k, () -> x.margin(0, 0, 0, 0, 0, k));
        }
        for (int k = 0; k <= 3; k++) {
            Checks.is("level on evening " + k, -50, x.level(0, 0, 0, 0, false, 36499, k));
            Checks.is("margin on evening " + k, -50, x.margin(0, 0, 0, 0, 0, k));
        }
    }

    // "no such THREAD, PART (as everywhere)"; "LEVEL behind a PART"
    private static void partsOfALevel() {
        GlassThreads x = with("run 1; run 2; run 3;", 0);
        int[] due = {-2, -6, -12, -12, -10, -6};
        for (int part = 0; part < 3; part++) {
            Checks.is("behind part " + part, due[part], x.level(0, part, 0, 0, false, 0, 0));
            Checks.is("from the end, part " + part, due[3 + part], x.level(0, part, 0, 0, true, 0, 0));
        }
        int[] parts = {-1, 3, LEAST, MOST};
        for (int part : parts) {
            Checks.noSuch("part " + part, () -> x.level(0, part, 0, 0, false, 0, 0));
            Checks.noSuch("part " + part + " from the end, ahead of the level", () -> x.level(0, part, 0, 30001, true, 0, 1));
        }
        int[] threads = {-1, 1, LEAST, MOST};
        for (int thread : threads) {
            Checks.noSuch("level of thread " + thread, () -> x.level(thread, 0, 0, 30001, false, 0, 1));
            Checks.noSuch("margin of thread " + thread, () -> x.margin(thread, 0, 30001, 0, 0, 1));
            Checks.noSuch("tired of thread " + thread, () -> x.tired(thread, 0, 30001, 0));
        }
    }

    // "NOISE comes of the AMPS that are on, all together. MARGIN at the last PART: LEVEL less a need, less NOISE."
    private static void marginsAndNoise() {
        GlassThreads x = with("amp 0 0; amp 0 0; run 1; amp 0 0; splice;", 0);
        Checks.law(x, "noise 1000*nth;");
        Checks.is("all on", -52 - 6000, x.margin(0, 0, 0, 0, 0, 0));
        x.event(2, 0, 3, 0, 1);
        Checks.is("the last one off", -5052 - 3000, x.margin(0, 0, 0, 0, 1, 0));
        x.event(2, 0, 0, 0, 2);
        Checks.is("the first one, too", -10052 - 2000, x.margin(0, 0, 0, 0, 2, 0));
        x.event(2, 0, 1, 0, 3);
        Checks.is("none on: no noise", -15052, x.margin(0, 0, 0, 0, 3, 0));
        x.event(3, 0, 0, 0, 4);
        Checks.is("the first one on again", -10052 - 1000, x.margin(0, 0, 0, 0, 4, 0));
        Checks.is("noise takes nothing of a level", -10052, x.level(0, 4, 0, 0, false, 4, 0));
        Checks.is("the need", -10052 - 1000 - 77, x.margin(0, 0, 0, 77, 4, 0));
        Checks.is("a need below 0", -10052 - 1000 + 77, x.margin(0, 0, 0, -77, 4, 0));
        Checks.is("no amp, no noise", -50, with("splice;", 0).margin(0, 0, 0, 0, 0, 0));
    }

    // "The first YEAR from the THREAD's on, to 99, on whose first DAY .. the MARGIN is below 0; NONE."
    private static void tiredYears() {
        GlassThreads x = with("splice; amp 0 0;", 60);
        Checks.law(x, "splice age; noise 0;");
        int[] sent = {-1, 0, 1, 37, 38, 39, 40};
        int[] due = {60, 61, 62, 98, 99, NONE, NONE};
        for (int i = 0; i < sent.length; i++) {
            Checks.is("sent at " + sent[i], due[i], x.tired(0, 0, sent[i], 0));
            Checks.is("needed so much less", due[i], x.tired(0, 0, 0, -sent[i]));
            if (due[i] != NONE) {
                Checks.is("below 0 that day", true, x.margin(0, 0, sent[i], 0, 365 * due[i], 0) < 0);
                Checks.is("not the day ahead, but for a new one", due[i] == 60,
                        x.margin(0, 0, sent[i], 0, 365 * due[i] - 1, 0) < 0);
            }
        }
        GlassThreads y = with("splice;", 99);
        Checks.law(y, "splice age;");
        Checks.is("laid in the last year", 99, y.tired(0, 0, -1, 0));
        Checks.is("never tired", NONE, y.tired(0, 0, 0, 0));
        // tired for a while only: the first year counts
        GlassThreads z = with("splice;", 0);
        Checks.law(z, "splice (age=5)*10+(age=7)*20;");
        Checks.is("the first", 5, z.tired(0, 0, 5, 0));
        Checks.is("the first that is below", 7, z.tired(0, 0, 10, 0));
        Checks.is("none is below", NONE, z.tired(0, 0, 20, 0));
    }
}
