/** Promises 8 to 13: evenings, events, what is taken back, levels, margins and tired threads. */
public final class LevelsTest {
    private static final int NONE = GlassThreads.NONE;
    private static final int DARK = -100000;
    private static final int NO_MARGIN = -1000000;

    public static void main(String[] args) {
        evenings();
        eventAnswers();
        eventLimit();
        takenBack();
        knownOnEvenings();
        orderOfEvents();
        levels();
        amps();
        cuts();
        ages();
        margins();
        tired();
        wrongInputs();
        Checks.end();
    }

    private static void evenings() {
        GlassThreads x = new GlassThreads();
        Checks.is("none goes by", 0, x.evenings(0));
        Checks.is("three", 3, x.evenings(3));
        Checks.illegal("below 0", () -> x.evenings(-1));
        Checks.illegal("above 999", () -> x.evenings(997));
        Checks.illegal("far above", () -> x.evenings(Integer.MAX_VALUE));
        Checks.is("nothing changed", 3, x.count(0));
        Checks.is("the last", 999, x.evenings(996));
        Checks.illegal("no more", () -> x.evenings(1));
    }

    private static void eventAnswers() {
        GlassThreads x = new GlassThreads();
        Checks.thread(x, "run 10; splice; plug 5; amp 100 100;", 0);
        Checks.is("bend 0", NONE, x.event(0, 0, 0, 0, 0));
        Checks.is("bend 20001", NONE, x.event(0, 0, 0, 20001, 0));
        Checks.is("bend of a splice", NONE, x.event(0, 0, 1, 1, 0));
        Checks.is("bend of an amp", NONE, x.event(0, 0, 3, 1, 0));
        Checks.is("cut -1", NONE, x.event(1, 0, 0, -1, 0));
        Checks.is("cut 11", NONE, x.event(1, 0, 0, 11, 0));
        Checks.is("cut of a plug", NONE, x.event(1, 0, 2, 0, 0));
        Checks.is("off of a run", NONE, x.event(2, 0, 0, 0, 0));
        Checks.is("off 1", NONE, x.event(2, 0, 3, 1, 0));
        Checks.is("mended 1", NONE, x.event(3, 0, 0, 1, 0));
        Checks.is("day -1", NONE, x.event(3, 0, 0, 0, -1));
        Checks.is("day 36500", NONE, x.event(3, 0, 0, 0, 36500));
        Checks.is("none so far", 0, x.count(2));
        Checks.is("bend 1", 0, x.event(0, 0, 0, 1, 0));
        Checks.is("bend 20000", 1, x.event(0, 0, 0, 20000, 36499));
        Checks.is("cut 0", 2, x.event(1, 0, 0, 0, 0));
        Checks.is("cut 10", 3, x.event(1, 0, 0, 10, 0));
        Checks.is("off", 4, x.event(2, 0, 3, 0, 0));
        for (int part = 0; part < 4; part++) {
            Checks.is("mended, any", 5 + part, x.event(3, 0, part, 0, 0));
        }
        Checks.noSuch("kind 4", () -> x.event(4, 0, 0, 0, 0));
        Checks.noSuch("kind -1", () -> x.event(-1, 0, 0, 0, 0));
        Checks.noSuch("thread 1", () -> x.event(0, 1, 0, 1, 0));
        Checks.noSuch("part 4", () -> x.event(0, 0, 4, 1, -1));
        Checks.noSuch("part -1", () -> x.event(3, 0, -1, 0, 0));
        Checks.is("nine in all", 9, x.count(2));
    }

    private static void eventLimit() {
        GlassThreads x = new GlassThreads();
        Checks.thread(x, "run 10;", 0);
        for (int i = 0; i < 120; i++) {
            Checks.is("event " + i, i, x.event(0, 0, 0, 1, 120 - i));
        }
        Checks.is("the 121st", NONE, x.event(0, 0, 0, 1, 0));
        Checks.is("120", 120, x.count(2));
        Checks.is("all of them bend", -20 - 120, x.level(0, 0, 0, 0, false, 120, 0));
        Checks.is("only those up to the day", -20 - 50, x.level(0, 0, 0, 0, false, 50, 0));
        Checks.noSuch("exceptions all the same", () -> x.event(0, 1, 0, 1, 0));
        Checks.is("the last is taken back", true, x.back(119));
        Checks.is("still 120", 120, x.count(2));
    }

    private static void takenBack() {
        GlassThreads x = new GlassThreads();
        Checks.thread(x, "run 10;", 0);
        x.event(0, 0, 0, 7, 0);
        Checks.is("taken back", true, x.back(0));
        Checks.is("it was", false, x.back(0));
        Checks.noSuch("no event 1", () -> x.back(1));
        Checks.noSuch("no event -1", () -> x.back(-1));
        Checks.is("told and taken on one evening", -20, x.level(0, 0, 0, 0, false, 0, 0));
    }

    private static void knownOnEvenings() {
        GlassThreads x = new GlassThreads();
        Checks.thread(x, "run 10;", 0);
        x.evenings(1);
        x.event(0, 0, 0, 7, 5);
        x.evenings(2);
        x.back(0);
        x.evenings(1);
        int[] due = {-20, -27, -27, -20, -20};
        for (int k = 0; k < due.length; k++) {
            Checks.is("evening " + k, due[k], x.level(0, 0, 0, 0, false, 5, k));
            Checks.is("evening " + k + ", the day ahead", -20, x.level(0, 0, 0, 0, false, 4, k));
        }
        x.back(0);
        Checks.is("taken back again, it changes nothing", -20, x.level(0, 0, 0, 0, false, 5, 3));
        Checks.illegal("evening 5", () -> x.level(0, 0, 0, 0, false, 5, 5));
        Checks.illegal("evening -1", () -> x.level(0, 0, 0, 0, false, 5, -1));
    }

    private static void orderOfEvents() {
        GlassThreads x = new GlassThreads();
        Checks.thread(x, "run 10; amp 100 1000;", 0);
        x.event(3, 0, 0, 0, 10);
        x.event(0, 0, 0, 5, 10);
        x.event(0, 0, 0, 6, 9);
        x.event(0, 0, 0, 7, 11);
        Checks.is("day 9", -26, x.level(0, 0, 0, 0, false, 9, 0));
        Checks.is("day 10: mended first, bent behind it", -25, x.level(0, 0, 0, 0, false, 10, 0));
        Checks.is("day 11: bends add up", -32, x.level(0, 0, 0, 0, false, 11, 0));
        x.event(1, 0, 0, 4, 12);
        x.event(0, 0, 0, 9, 12);
        x.event(1, 0, 0, 2, 11);
        Checks.is("cut", DARK, x.level(0, 0, 0, 0, false, 11, 0));
        x.event(3, 0, 0, 0, 11);
        Checks.is("mended that day", -20, x.level(0, 0, 0, 0, false, 11, 0));
        Checks.is("cut again", DARK, x.level(0, 0, 0, 0, false, 12, 0));
        x.echo(0, 0, false, 12, 0);
        Checks.is("where it is cut", 4, x.echoed(0, 0));
        x.event(3, 0, 0, 0, 12);
        Checks.is("mended: no bend, no cut", -20, x.level(0, 0, 0, 0, false, 12, 0));
        x.event(2, 0, 1, 0, 3);
        x.event(3, 0, 1, 0, 5);
        Checks.is("amp on", 80, x.level(0, 1, 0, 0, false, 2, 0));
        Checks.is("amp off", -5020, x.level(0, 1, 0, 0, false, 4, 0));
        Checks.is("amp mended", 80, x.level(0, 1, 0, 0, false, 5, 0));
    }

    private static void levels() {
        GlassThreads x = new GlassThreads();
        Checks.thread(x, "run 10; splice; plug 5; run 20;", 0);
        Checks.thread(x, "run 10;", 0);
        int[] ahead = {-20, -70, -370, -410};
        int[] round = {-410, -390, -340, -40};
        for (int part = 0; part < 4; part++) {
            Checks.is("from the beginning " + part, ahead[part], x.level(0, part, 0, 0, false, 0, 0));
            Checks.is("from the end " + part, round[part], x.level(0, part, 0, 0, true, 0, 0));
        }
        x.event(0, 0, 3, 15, 0);
        Checks.is("a bend loses more", -425, x.level(0, 3, 0, 0, false, 0, 0));
        Checks.is("another thread doesn't", -20, x.level(1, 0, 0, 0, false, 0, 0));
        Checks.is("least sent", -60020, x.level(1, 0, 0, -60000, false, 0, 0));
        Checks.is("most sent", 29980, x.level(1, 0, 0, 30000, false, 36499, 0));
    }

    private static void amps() {
        GlassThreads x = new GlassThreads();
        Checks.thread(x, "amp 300 1000;", 0);
        Checks.is("lifted", 500, x.level(0, 0, 0, 200, false, 0, 0));
        Checks.is("to its most", 1000, x.level(0, 0, 0, 700, false, 0, 0));
        Checks.is("not above it", 1000, x.level(0, 0, 0, 900, false, 0, 0));
        Checks.is("at it", 1000, x.level(0, 0, 0, 1000, false, 0, 0));
        Checks.is("above it already", 1001, x.level(0, 0, 0, 1001, true, 0, 0));
        Checks.law(x, "noise 900;");
        Checks.is("no loss of an amp", 500, x.level(0, 0, 0, 200, false, 0, 0));
        x.event(2, 0, 0, 0, 0);
        Checks.is("off", -4800, x.level(0, 0, 0, 200, false, 0, 0));
    }

    private static void cuts() {
        GlassThreads x = new GlassThreads();
        Checks.thread(x, "splice; run 10; plug 5;", 0);
        x.event(1, 0, 1, 10, 0);
        Checks.is("ahead of the cut", -50, x.level(0, 0, 0, 0, false, 0, 0));
        Checks.is("behind the cut run", DARK, x.level(0, 1, 0, 0, false, 0, 0));
        Checks.is("further on", DARK, x.level(0, 2, 0, 0, false, 0, 0));
        Checks.is("from the end, ahead", -300, x.level(0, 2, 0, 0, true, 0, 0));
        Checks.is("from the end, behind", DARK, x.level(0, 1, 0, 0, true, 0, 0));
        Checks.is("from the end, further", DARK, x.level(0, 0, 0, 0, true, 0, 0));
        Checks.is("no margin", NO_MARGIN, x.margin(0, 0, 0, 0, 0, 0));
    }

    private static void ages() {
        GlassThreads x = new GlassThreads();
        Checks.thread(x, "splice;", 10);
        Checks.law(x, "splice age + 100*colour;");
        Checks.is("ahead of its year", 0, x.level(0, 0, 0, 0, false, 0, 0));
        Checks.is("its year's last day", 0, x.level(0, 0, 0, 0, false, 365 * 11 - 1, 0));
        Checks.is("a year later", -1, x.level(0, 0, 0, 0, false, 365 * 11, 0));
        Checks.is("at the end", -89, x.level(0, 0, 0, 0, false, 36499, 0));
        Checks.is("colour", -789, x.level(0, 0, 7, 0, false, 36499, 0));
    }

    private static void margins() {
        GlassThreads x = new GlassThreads();
        Checks.thread(x, "amp 100 1000; run 10; amp 100 1000; splice;", 0);
        Checks.is("margin", 130 - 30 - 400, x.margin(0, 0, 0, 30, 0, 0));
        Checks.law(x, "noise size + nth + 10*age + 1000*colour;");
        Checks.is("noise by law", 130 - 203 - 40 - 6000, x.margin(0, 3, 0, 0, 800, 0));
        x.event(2, 0, 2, 0, 5);
        x.evenings(1);
        Checks.is("an amp off makes no noise", 30 - 5000 - 101, x.margin(0, 0, 0, 0, 5, 0));
        Checks.is("ahead of that day", 130 - 203, x.margin(0, 0, 0, 0, 4, 0));
        x.back(0);
        Checks.is("taken back", 130 - 203, x.margin(0, 0, 0, 0, 5, 1));
        Checks.is("as known then", 30 - 5000 - 101, x.margin(0, 0, 0, 0, 5, 0));
    }

    private static void tired() {
        GlassThreads x = new GlassThreads();
        Checks.thread(x, "run 100; amp 10 30000;", 40);
        Checks.law(x, "run 10*age; noise age*colour;");
        Checks.is("at once", 40, x.tired(0, 0, -20, 0));
        Checks.is("0 is not below 0", 42, x.tired(0, 0, 0, 0));
        Checks.is("in the last year", 99, x.tired(0, 0, 579, 0));
        Checks.is("never", NONE, x.tired(0, 0, 580, 0));
        Checks.is("noise counts", 93, x.tired(0, 1, 572, 0));
        Checks.is("need counts", 42, x.tired(0, 0, 500, 500));
        x.event(0, 0, 0, 20000, 0);
        x.event(1, 0, 0, 0, 0);
        x.event(2, 0, 1, 0, 0);
        Checks.is("events don't count", 99, x.tired(0, 0, 579, 0));
    }

    private static void wrongInputs() {
        GlassThreads x = new GlassThreads();
        Checks.thread(x, "run 10;", 0);
        Checks.noSuch("level thread", () -> x.level(1, 0, 0, 40000, false, 0, 9));
        Checks.noSuch("level part", () -> x.level(0, 1, 0, 40000, false, 0, 9));
        Checks.noSuch("level part NONE", () -> x.level(0, NONE, 0, 0, false, 0, 0));
        Checks.noSuch("level colour", () -> x.level(0, 0, 8, 40000, false, 0, 9));
        Checks.noSuch("level day", () -> x.level(0, 0, 0, 40000, false, 36500, 9));
        Checks.noSuch("level day -1", () -> x.level(0, 0, 0, 0, false, -1, 0));
        Checks.illegal("level sent", () -> x.level(0, 0, 0, 30001, false, 0, 0));
        Checks.illegal("level sent low", () -> x.level(0, 0, 0, -60001, false, 0, 0));
        Checks.illegal("level evening", () -> x.level(0, 0, 0, 0, false, 0, 1));
        Checks.noSuch("margin thread", () -> x.margin(1, 0, 40000, 0, 0, 0));
        Checks.noSuch("margin colour", () -> x.margin(0, -1, 40000, 0, 0, 0));
        Checks.noSuch("margin day", () -> x.margin(0, 0, 40000, 0, 36500, 0));
        Checks.illegal("margin sent", () -> x.margin(0, 0, 30001, 0, 0, 0));
        Checks.illegal("margin need", () -> x.margin(0, 0, 0, 30001, 0, 0));
        Checks.illegal("margin need low", () -> x.margin(0, 0, 0, -60001, 0, 0));
        Checks.illegal("margin evening", () -> x.margin(0, 0, 0, 0, 0, 1));
        Checks.noSuch("tired thread", () -> x.tired(1, 0, 40000, 0));
        Checks.noSuch("tired colour", () -> x.tired(0, 8, 40000, 0));
        Checks.illegal("tired sent", () -> x.tired(0, 0, -60001, 0));
        Checks.illegal("tired need", () -> x.tired(0, 0, 0, 30001));
        Checks.is("edges", 30000 + 60000 - 20, x.margin(0, 0, 30000, -60000, 0, 0));
    }
}
