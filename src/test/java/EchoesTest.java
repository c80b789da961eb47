/** Promises 14 to 21: DEAD, rows of echoes, and reading them back. */
public final class EchoesTest {
    private static final int NONE = GlassThreads.NONE;

    public static void main(String[] args) {
        dead();
        firstAndSmall();
        deadZone();
        bends();
        cuts();
        amps();
        ghosts();
        ghostsAndCuts();
        coloursAndAges();
        echoWrong();
        suspects();
        told();
        readBack();
        readBackIgnoresEvents();
        nothingFound();
        readBackWrong();
        Checks.end();
    }

    /** The row that is kept is just these: distance, size, kind of each. */
    private static void row(String what, GlassThreads x, int... due) {
        for (int i = 0; i < due.length; i++) {
            Checks.is(what + ", echo " + i / 3 + ", " + i % 3, due[i], x.echoed(i / 3, i % 3));
        }
        Checks.noSuch(what + ": no more", () -> x.echoed(due.length / 3, 0));
    }

    private static void echoes(String what, GlassThreads x, boolean end, int... due) {
        Checks.is(what + ": how many", due.length / 3, x.echo(0, 0, end, 0, x.count(0)));
        row(what, x, due);
    }

    private static GlassThreads with(String text) {
        GlassThreads x = new GlassThreads();
        Checks.is("thread '" + text + "'", 0, Checks.thread(x, text, 0));
        return x;
    }

    private static void dead() {
        GlassThreads x = new GlassThreads();
        Checks.is("at first", 5, x.dead(0));
        Checks.is("what it was", 0, x.dead(99));
        Checks.illegal("100", () -> x.dead(100));
        Checks.illegal("-1", () -> x.dead(-1));
        Checks.is("nothing changed", 99, x.dead(7));
    }

    private static void firstAndSmall() {
        GlassThreads x = with("run 10; splice; run 10; splice; run 10; plug 5; run 10;");
        Checks.law(x, "splice 39;");
        echoes("39 is too small but for the first", x, false, 10, 39, 1, 30, 300, 2);
        echoes("from the end", x, true, 10, 300, 2);
        Checks.law(x, "splice 40; plug 0;");
        echoes("40 is seen", x, false, 10, 40, 1, 20, 40, 1);
        echoes("the first of any size", x, true, 10, 0, 2, 20, 40, 1, 30, 40, 1);
        echoes("no steps", with("run 10;"), false);
        echoes("a step at once", with("splice; run 10;"), false, 0, 50, 1);
        echoes("a step at the end", with("splice; run 10;"), true, 10, 50, 1);
    }

    private static void deadZone() {
        GlassThreads x = with("plug 0; run 5; splice; run 1; splice; splice; run 6; plug 0;");
        echoes("more than DEAD above the seen one", x, false, 0, 300, 2, 6, 50, 1, 12, 300, 2);
        x.dead(4);
        echoes("less dead", x, false, 0, 300, 2, 5, 50, 1, 12, 300, 2);
        x.dead(0);
        echoes("only one of a place", x, false, 0, 300, 2, 5, 50, 1, 6, 50, 1, 12, 300, 2);
        x.dead(12);
        echoes("all dead", x, false, 0, 300, 2);
        x.dead(5);
        Checks.law(x, "splice 10*nth;");
        // what is too small hides nothing: the plug is above the first one, not above the splices
        echoes("small ones don't count", x, false, 0, 300, 2, 12, 300, 2);
    }

    private static void bends() {
        GlassThreads x = with("run 21; run 9; splice; run 1;");
        x.event(0, 0, 0, 40, 0);
        x.event(0, 0, 1, 39, 0);
        x.event(0, 0, 3, 500, 0);
        echoes("half, cut down", x, false, 10, 40, 0, 30, 50, 1);
        echoes("half from the end", x, true, 0, 500, 0, 20, 40, 0);
        x.event(0, 0, 1, 1, 0);
        echoes("bends add up to 40", x, false, 10, 40, 0, 25, 40, 0);
        x.event(3, 0, 0, 0, 0);
        echoes("mended", x, false, 25, 40, 0);
        Checks.is("as known before", 0, x.echo(0, 0, false, 0, 0) - 1);
    }

    private static void cuts() {
        GlassThreads x = with("run 10; splice; run 20; plug 50; run 30;");
        x.event(1, 0, 2, 10, 0);
        echoes("to the cut", x, false, 10, 50, 1, 20, 0, 3);
        echoes("from the end", x, true, 30, 300, 2, 40, 0, 3);
        x.event(0, 0, 2, 60, 0);
        echoes("a bend where it is cut hides the cut", x, false, 10, 50, 1, 20, 60, 0);
        x.dead(0);
        echoes("at one distance the bend comes first", x, false, 10, 50, 1, 20, 60, 0);
        x.dead(5);
        x.event(1, 0, 2, 9, 0);
        echoes("a bend behind the cut isn't seen", x, false, 10, 50, 1, 19, 0, 3);
        echoes("from the end it is ahead of it", x, true, 30, 300, 2, 40, 60, 0);
        x.event(1, 0, 2, 17, 0);
        echoes("the last cut counts", x, false, 10, 50, 1, 20, 60, 0, 27, 0, 3);
        echoes("a bend behind it from the end", x, true, 30, 300, 2);
        x.event(1, 0, 0, 0, 0);
        echoes("a cut at the beginning", x, false, 0, 0, 3);
        x.event(1, 0, 4, 30, 0);
        echoes("a cut at the end", x, true, 0, 0, 3);
    }

    private static void amps() {
        GlassThreads x = with("run 10; splice; run 10; amp 1 1; run 10; plug 0; run 10; amp 1 1; run 7; splice;");
        echoes("up to the first amp", x, false, 10, 50, 1);
        echoes("from the end", x, true, 0, 50, 1);
        x.event(2, 0, 3, 0, 0);
        x.event(2, 0, 7, 0, 0);
        echoes("an amp that is off ends it, too", x, false, 10, 50, 1);
        x.event(1, 0, 4, 5, 0);
        echoes("a cut behind it isn't seen", x, false, 10, 50, 1);
        echoes("an amp at once", with("amp 1 1; splice;"), false);
    }

    private static void ghosts() {
        GlassThreads x = with("run 10; plug 10; run 11;");
        echoes("a ghost", x, false, 10, 300, 2, 20, 1, 4);
        echoes("none at the whole length or above", x, true, 11, 300, 2);
        echoes("2 d must be less", with("run 10; plug 99; run 10;"), false, 10, 300, 2);
        echoes("9 throws too little", with("run 10; plug 9; run 11;"), false, 10, 300, 2);
        echoes("none at 0", with("plug 99; run 11;"), false, 0, 300, 2);
        echoes("a seen one within DEAD", with("run 10; plug 10; run 15; splice; run 50;"), false,
                10, 300, 2, 25, 50, 1);
        echoes("one that is further", with("run 10; plug 10; run 16; splice; run 50;"), false,
                10, 300, 2, 20, 1, 4, 26, 50, 1);
        echoes("a plug that isn't seen has none", with("run 10; splice; run 2; plug 99; run 99;"), false,
                10, 50, 1);
        echoes("within DEAD ahead", with("run 30; plug 10; run 25; splice; run 50;"), false,
                30, 300, 2, 55, 50, 1);
        // ghosts don't hide one another, and nothing that was seen
        GlassThreads y = with("run 30; plug 10; run 6; plug 10; run 60;");
        y.dead(5);
        echoes("two ghosts", y, false, 30, 300, 2, 36, 300, 2, 60, 1, 4, 72, 1, 4);
        GlassThreads z = with("run 20; plug 10; run 2; plug 10; run 38;");
        z.dead(1);
        echoes("near ghosts", z, false, 20, 300, 2, 22, 300, 2, 40, 1, 4, 44, 1, 4);
        z.dead(0);
        Checks.law(z, "plug 39;");
        echoes("first only", z, false, 20, 39, 2, 40, 1, 4);
        echoes("up to the amp", with("run 10; plug 10; run 10; amp 1 1; run 99;"), false, 10, 300, 2);
    }

    private static void ghostsAndCuts() {
        GlassThreads x = with("run 10; plug 10; run 30;");
        x.event(1, 0, 2, 10, 0);
        echoes("the cut is at 2 d", x, false, 10, 300, 2, 20, 0, 3);
        x.event(1, 0, 2, 11, 0);
        echoes("a cut within DEAD", x, false, 10, 300, 2, 21, 0, 3);
        x.dead(0);
        echoes("a cut behind it", x, false, 10, 300, 2, 20, 1, 4, 21, 0, 3);
        x.dead(15);
        echoes("a cut that isn't seen hides no ghost, but ends the length", x, false, 10, 300, 2);
    }

    private static void coloursAndAges() {
        GlassThreads x = new GlassThreads();
        Checks.thread(x, "run 10; splice; run 10; splice;", 3);
        Checks.law(x, "splice 30 + colour + age;");
        Checks.is("too small", 1, x.echo(0, 4, false, 365 * 8, 0));
        Checks.is("its size", 39, x.echoed(0, 1));
        Checks.is("older", 2, x.echo(0, 4, false, 365 * 9, 0));
        Checks.is("another colour", 2, x.echo(0, 5, false, 365 * 8, 0));
        x.event(0, 0, 0, 70, 400);
        x.evenings(1);
        x.back(0);
        Checks.is("as known on evening 0", 1, x.echo(0, 0, false, 400, 0));
        Checks.is("its kind", 0, x.echoed(0, 2));
        Checks.is("as known on evening 1", 1, x.echo(0, 0, false, 400, 1));
        Checks.is("its kind then", 1, x.echoed(0, 2));
    }

    private static void echoWrong() {
        GlassThreads x = with("splice;");
        x.echo(0, 0, false, 0, 0);
        Checks.noSuch("thread", () -> x.echo(1, 0, false, 0, 1));
        Checks.noSuch("colour", () -> x.echo(0, 8, false, 0, 1));
        Checks.noSuch("day", () -> x.echo(0, 0, false, 36500, 1));
        Checks.illegal("evening 1", () -> x.echo(0, 0, false, 0, 1));
        Checks.illegal("evening -1", () -> x.echo(0, 0, false, 0, -1));
        row("the row is kept", x, 0, 50, 1);
        Checks.noSuch("what 3", () -> x.echoed(0, 3));
        Checks.noSuch("what -1", () -> x.echoed(0, -1));
        Checks.noSuch("echo -1", () -> x.echoed(-1, 0));
    }

    private static void suspects() {
        GlassThreads x = with("run 1; run 2; run 3; run 4; run 5; run 6; run 7; run 8; run 9; splice;");
        Checks.noSuch("no look yet", () -> x.suspect(0, 1));
        Checks.noSuch("look at no thread", () -> x.look(1));
        Checks.noSuch("still no look", () -> x.suspect(0, 1));
        x.look(0);
        Checks.is("size 0", NONE, x.suspect(0, 0));
        Checks.is("size 20001", NONE, x.suspect(0, 20001));
        Checks.is("no run", NONE, x.suspect(9, 1));
        Checks.noSuch("no part 10", () -> x.suspect(10, 0));
        Checks.noSuch("no part NONE", () -> x.suspect(NONE, 1));
        for (int i = 0; i < 8; i++) {
            Checks.is("suspect", i + 1, x.suspect(i, i == 0 ? 1 : 20000));
            Checks.is("it is one", NONE, x.suspect(i, 7));
        }
        Checks.is("there are 8", NONE, x.suspect(8, 1));
        Checks.is("eight", 8, x.count(6));
        Checks.is("all sets", 256, x.readBack(0));
        Checks.noSuch("look at no thread", () -> x.look(-1));
        Checks.is("they stay", 8, x.count(6));
        x.look(0);
        Checks.is("begun anew", 0, x.count(6));
        Checks.is("one", 1, x.suspect(0, 1));
        Checks.is("what was kept stays", 255, x.found(2));
    }

    private static void told() {
        GlassThreads x = with("run 10; splice; run 30;");
        Checks.noSuch("no look yet", () -> x.seen(false));
        x.look(0);
        Checks.is("no row yet", false, x.seen(false));
        x.suspect(0, 60);
        x.suspect(2, 70);
        x.echo(0, 0, false, 0, 0);
        Checks.is("told", true, x.seen(false));
        Checks.is("none is bent, from the beginning", 1, x.readBack(0));
        Checks.is("no set has one", 0, x.found(0));
        x.event(0, 0, 0, 60, 0);
        x.echo(0, 0, false, 0, 0);
        Checks.is("telling waits for seen()", 1, x.readBack(0));
        Checks.is("still none", 0, x.found(0));
        Checks.is("another one in its place", true, x.seen(false));
        x.echo(0, 0, true, 0, 0);
        Checks.is("the first one", 1, x.readBack(0));
        Checks.is("as bits", 1, x.found(0));
        Checks.is("told from the end", true, x.seen(true));
        Checks.is("both sides", 1, x.readBack(0));
        x.look(0);
        x.suspect(0, 60);
        Checks.is("no rows any more", 2, x.readBack(0));
        x.sheet(2, 0);
        x.rowOf(0, 0, 0);
        Checks.is("an empty row is one", true, x.seen(true));
        Checks.is("nothing is so empty", 0, x.readBack(0));
    }

    private static void readBack() {
        GlassThreads x = with("plug 50; run 20; splice; run 8; run 40; plug 0; run 6;");
        x.look(0);
        x.suspect(6, 30);
        x.suspect(1, 100);
        x.suspect(3, 200);
        x.suspect(4, 39);
        Checks.is("no rows: all", 16, x.readBack(1));
        Checks.is("first", 0, x.found(0));
        Checks.is("in all", 0, x.found(1));
        Checks.is("hidden", 15, x.found(2));
        x.event(0, 0, 1, 100, 0);
        x.echo(0, 0, false, 0, 0);
        row("bent", x, 0, 300, 2, 10, 100, 0, 20, 50, 1, 68, 300, 2);
        x.seen(false);
        // the third suspect is too near to the splice, the others are too small
        Checks.is("sets", 8, x.readBack(0));
        Checks.is("first", 2, x.found(0));
        Checks.is("in all", 2, x.found(1));
        Checks.is("hidden", 13, x.found(2));
        x.echo(0, 0, true, 0, 0);
        row("from the end", x, 6, 300, 2, 54, 50, 1, 64, 100, 0, 74, 300, 2);
        x.seen(true);
        Checks.is("sets of both", 2, x.readBack(0));
        Checks.is("in all of both", 2, x.found(1));
        Checks.is("hidden in both", 8, x.found(2));
        x.dead(0);
        Checks.is("DEAD counts when it is read back", 2, x.readBack(0));
        x.dead(30);
        Checks.is("another DEAD makes other rows", 0, x.readBack(0));
        x.dead(5);
        Checks.law(x, "splice 50 + colour + age;");
        Checks.is("age 0", 2, x.readBack(0));
        Checks.is("colours count", 0, x.readBack(1));
        // kinds don't count, distances and sizes do
        x.sheet(1, 12);
        int[] cells = {0, 300, 0, 10, 100, 4, 20, 50, 3, 68, 300, 1};
        for (int i = 0; i < cells.length; i++) {
            x.write(0, i, cells[i]);
        }
        x.look(0);
        x.suspect(1, 100);
        Checks.is("a row of a sheet", 0, x.rowOf(0, 0, 4));
        x.seen(false);
        Checks.is("kinds don't count", 1, x.readBack(0));
        x.write(0, 4, 99);
        x.rowOf(0, 0, 4);
        x.seen(false);
        Checks.is("sizes do", 0, x.readBack(0));
        x.rowOf(0, 0, 3);
        x.seen(false);
        Checks.is("just this row", 0, x.readBack(0));
    }

    private static void readBackIgnoresEvents() {
        GlassThreads x = with("run 10; splice; run 10; run 30;");
        x.echo(0, 0, false, 0, 0);
        x.look(0);
        x.seen(false);
        x.suspect(3, 50);
        x.event(1, 0, 0, 3, 0);
        x.event(0, 0, 2, 900, 0);
        Checks.is("nothing else is bent or cut", 1, x.readBack(0));
        Checks.is("not even the suspect", 0, x.found(0));
        Checks.is("hidden none", 0, x.found(2));
        x.event(3, 0, 0, 0, 0);
        x.event(3, 0, 2, 0, 0);
        x.event(0, 0, 3, 50, 0);
        x.echo(0, 0, false, 0, 0);
        x.seen(false);
        Checks.is("the suspect", 1, x.readBack(0));
        Checks.is("in all", 1, x.found(1));
        Checks.is("hidden none", 0, x.found(2));
        x.event(0, 0, 3, 1, 0);
        x.echo(0, 0, false, 0, 0);
        x.seen(false);
        Checks.is("another size is another bend", 0, x.readBack(0));
    }

    private static void nothingFound() {
        GlassThreads x = with("run 10; splice;");
        Checks.noSuch("nothing is kept", () -> x.found(0));
        x.echo(0, 0, false, 0, 0);
        x.look(0);
        x.suspect(0, 60);
        x.seen(true);
        Checks.noSuch("nothing is kept yet", () -> x.found(1));
        Checks.is("no set", 0, x.readBack(0));
        Checks.is("no first", NONE, x.found(0));
        Checks.is("in all", 0, x.found(1));
        Checks.is("hidden", 0, x.found(2));
        x.look(0);
        Checks.is("no suspects", 1, x.readBack(0));
        Checks.is("the empty set", 0, x.found(0));
    }

    private static void readBackWrong() {
        GlassThreads x = with("run 10; splice;");
        Checks.noSuch("no look", () -> x.readBack(0));
        x.look(0);
        Checks.noSuch("colour 8", () -> x.readBack(8));
        Checks.noSuch("colour -1", () -> x.readBack(-1));
        Checks.noSuch("nothing was kept", () -> x.found(0));
        x.readBack(7);
        Checks.noSuch("what 3", () -> x.found(3));
        Checks.noSuch("what -1", () -> x.found(-1));
    }
}
