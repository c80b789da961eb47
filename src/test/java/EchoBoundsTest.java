import java.util.Arrays;

/**
 * Promises 14 to 21 at their bounds. Above each test stands the sentence of the document that it is
 * for; it asks on the bound, just below it and just above it.
 */
public final class EchoBoundsTest {
    private static final int NONE = GlassThreads.NONE;
    private static final int BENT = 0;
    private static final int SPLICE = 1;
    private static final int PLUG = 2;
    private static final int CUT = 3;
    private static final int GHOST = 4;
    private static final int LEAST = Integer.MIN_VALUE;
    private static final int MOST = Integer.MAX_VALUE;

    public static void main(String[] args) {
        dead();
        upToTheFirstAmp();
        upToTheCut();
        halfALength();
        halfBehindTheCut();
        ofOneDistance();
        firstOfAnySize();
        sizes();
        moreThanDead();
        aboveTheSeenOne();
        cutsAndDead();
        ghostsThrown();
        ghostsAndTheWholeLength();
        ghostsNearSeenOnes();
        ghostsOfPlugsThatAreNotSeen();
        ghostsInTheRow();
        fullestRow();
        echoRefused();
        echoesOfTheRow();
        rowIsKept();
        looks();
        suspects();
        noLookYet();
        rowsTold();
        justTheRows();
        justTheseRuns();
        whatIsFound();
        Checks.end();
    }

    private static GlassThreads with(String text) {
        GlassThreads x = new GlassThreads();
        Checks.is("thread '" + text + "'", 0, Checks.thread(x, text, 0));
        return x;
    }

    /** The row of thread 0 on day 0 as known tonight: distance, size, kind of each. */
    private static void echoes(String what, GlassThreads x, boolean end, int... due) {
        Checks.is(what + ": how many", due.length / 3, x.echo(0, 0, end, 0, x.count(0)));
        rowIs(what, x, due);
    }

    private static void rowIs(String what, GlassThreads x, int... due) {
        for (int i = 0; i < due.length; i++) {
            Checks.is(what + ": echo " + i / 3 + ", " + i % 3, due[i], x.echoed(i / 3, i % 3));
        }
        for (int number = 0; number < 3; number++) {
            int n = number;
            Checks.noSuch(what + ": no more", () -> x.echoed(due.length / 3, n));
        }
    }

    // "DEAD: what it was. IllegalArgumentException: not as told."; "DEAD (0 to 99)"; "DEAD 5"
    private static void dead() {
        GlassThreads x = new GlassThreads();
        int[] bad = {-1, 100, LEAST, MOST};
        for (int feet : bad) {
            Checks.illegal("DEAD " + feet, () -> x.dead(feet));
        }
        int[] good = {0, 1, 98, 99, 5};
        int former = 5;
        for (int feet : good) {
            Checks.is("what it was ahead of " + feet, former, x.dead(feet));
            former = feet;
        }
        Checks.illegal("100 again", () -> x.dead(100));
        Checks.is("nothing changed", 5, x.dead(0));
    }

    // "up to the first AMP (not that one)"
    private static void upToTheFirstAmp() {
        GlassThreads x = with("run 10; splice; amp 0 0; splice; run 20; splice; amp 0 0; run 30; splice;");
        echoes("ahead of the amp", x, false, 10, 50, SPLICE);
        echoes("ahead of it from the end", x, true, 0, 50, SPLICE);
        x.event(0, 0, 4, 70, 0);
        x.event(1, 0, 4, 10, 0);
        echoes("nothing of what is behind it", x, false, 10, 50, SPLICE);
        x.event(2, 0, 2, 0, 0);
        echoes("nor if it is off", x, false, 10, 50, SPLICE);
        echoes("an amp alone", with("amp 0 0;"), false);
        echoes("an amp alone from the end", with("amp 0 0;"), true);
        echoes("an amp at once", with("amp 0 0; splice;"), false);
        echoes("an amp at once from the end", with("splice; amp 0 0;"), true);
        echoes("all of it", with("splice; amp 0 0;"), false, 0, 50, SPLICE);
    }

    // "or to where a RUN is CUT"; "a CUT (at where it is, size 0, kind CUT)"
    private static void upToTheCut() {
        for (int cut = 0; cut <= 10; cut++) {
            GlassThreads x = with("splice; run 10; run 10; splice;");
            x.event(1, 0, 2, cut, 0);
            echoes("cut at " + cut, x, false, 0, 50, SPLICE, 10 + cut, 0, CUT);
            int open = 10 - cut;
            if (open > 5) {
                echoes("from the end", x, true, 0, 50, SPLICE, open, 0, CUT);
            } else {
                echoes("too near from the end", x, true, 0, 50, SPLICE);
            }
        }
        GlassThreads x = with("run 10; run 10;");
        x.event(1, 0, 1, 0, 0);
        echoes("cut where it begins", x, false, 10, 0, CUT);
        echoes("cut where it begins, from the end", x, true, 10, 0, CUT);
        x.event(1, 0, 1, 10, 0);
        echoes("cut where it ends", x, false, 20, 0, CUT);
        echoes("cut where it ends, from the end", x, true, 0, 0, CUT);
        x.event(1, 0, 0, 10, 0);
        echoes("the first of two cuts", x, false, 10, 0, CUT);
        echoes("the first of two cuts from the end", x, true, 0, 0, CUT);
    }

    // "each RUN that is BENT (half its length behind those ahead, cut down)"
    private static void halfALength() {
        int[] lengths = {1, 2, 3, 4, 5, 9998, 9999};
        int[] halves = {0, 1, 1, 2, 2, 4999, 4999};
        for (int i = 0; i < lengths.length; i++) {
            GlassThreads x = with("run 10; run " + lengths[i] + "; run 20;");
            x.event(0, 0, 1, 40, 0);
            echoes("half of " + lengths[i], x, false, 10 + halves[i], 40, BENT);
            echoes("half of " + lengths[i] + " from the end", x, true, 20 + halves[i], 40, BENT);
        }
    }

    // "not if that is behind where it is CUT"
    private static void halfBehindTheCut() {
        for (int length = 10; length <= 11; length++) {
            for (int cut = 0; cut <= length; cut++) {
                GlassThreads x = with("run " + length + ";");
                x.dead(0);
                x.event(0, 0, 0, 70, 0);
                x.event(1, 0, 0, cut, 0);
                bentAndCut("cut at " + cut + " of " + length, x, false, cut);
                bentAndCut("cut at " + cut + " of " + length + " from the end", x, true, length - cut);
            }
        }
    }

    private static void bentAndCut(String what, GlassThreads x, boolean end, int open) {
        if (open < 5) {
            echoes(what, x, end, open, 0, CUT);
        } else if (open == 5) {
            echoes(what, x, end, 5, 70, BENT);
        } else {
            echoes(what, x, end, 5, 70, BENT, open, 0, CUT);
        }
    }

    // "of those of one distance in that order" (the PARTS' own)
    private static void ofOneDistance() {
        GlassThreads x = with("run 9; plug 5; splice; run 1; plug 7; run 7;");
        x.dead(0);
        echoes("the plug stands ahead of the splice", x, false, 9, 300, PLUG, 10, 300, PLUG);
        echoes("the splice ahead of the plug", x, true, 7, 300, PLUG, 8, 50, SPLICE);
        x.event(0, 0, 3, 60, 0);
        echoes("a bend at once is behind both", x, false, 9, 300, PLUG, 10, 300, PLUG);
        echoes("and behind the last plug from the end", x, true, 7, 300, PLUG, 8, 50, SPLICE);
        Checks.law(x, "plug 39; splice 39;");
        echoes("the others are too small", x, false, 9, 39, PLUG);
        Checks.law(x, "plug 300*(nth=1); splice 39;");
        echoes("too small but for the first, the bend hides nothing", x, true, 7, 0, PLUG, 8, 300, PLUG);
    }

    // "SEEN are the first one (of any size)"
    private static void firstOfAnySize() {
        for (int size = 0; size <= 1; size++) {
            GlassThreads x = with("run 20; splice; run 20; plug 0; run 20;");
            Checks.law(x, "splice " + size + "; plug " + size + ";");
            echoes("a first splice of " + size, x, false, 20, size, SPLICE);
            echoes("a first plug of " + size, x, true, 20, size, PLUG);
        }
        GlassThreads x = with("run 20; splice; run 20;");
        x.event(0, 0, 0, 1, 0);
        echoes("a first bend of 1", x, false, 10, 1, BENT, 20, 50, SPLICE);
        x.event(1, 0, 2, 13, 0);
        echoes("a first cut", x, true, 7, 0, CUT);
        echoes("none is first", with("run 20; run 20;"), false);
    }

    // "and whose size is 40 or more (a CUT any)"
    private static void sizes() {
        for (int size = 38; size <= 42; size++) {
            GlassThreads x = with("splice; run 20; splice; run 20; plug 0; run 20;");
            Checks.law(x, "splice " + size + "; plug " + size + ";");
            x.event(0, 0, 5, size, 0);
            if (size < 40) {
                echoes(size + " is too small", x, false, 0, size, SPLICE);
                echoes(size + " is too small from the end", x, true, 10, size, BENT);
            } else {
                echoes(size + " is seen", x, false,
                        0, size, SPLICE, 20, size, SPLICE, 40, size, PLUG, 50, size, BENT);
                echoes(size + " is seen from the end", x, true,
                        10, size, BENT, 20, size, PLUG, 40, size, SPLICE, 60, size, SPLICE);
            }
        }
        GlassThreads x = with("splice; run 20;");
        x.event(0, 0, 1, 39, 0);
        echoes("a bend of 39", x, false, 0, 50, SPLICE);
        x.event(0, 0, 1, 1, 0);
        echoes("bends of 39 and 1", x, false, 0, 50, SPLICE, 10, 40, BENT);
        x.event(1, 0, 1, 20, 0);
        echoes("a cut of 0", x, false, 0, 50, SPLICE, 10, 40, BENT, 20, 0, CUT);
    }

    // "each other one whose distance is more than DEAD (0 to 99) above that of the SEEN one ahead"
    private static void moreThanDead() {
        int[] deads = {0, 1, 5, 98, 99};
        for (int dead : deads) {
            for (int apart = Math.max(1, dead - 1); apart <= dead + 2; apart++) {
                GlassThreads x = with("run 7; splice; run " + apart + "; splice; run 9;");
                x.dead(dead);
                if (apart > dead) {
                    echoes(apart + " apart, DEAD " + dead, x, false, 7, 50, SPLICE, 7 + apart, 50, SPLICE);
                    echoes(apart + " apart from the end", x, true, 9, 50, SPLICE, 9 + apart, 50, SPLICE);
                } else {
                    echoes(apart + " apart, DEAD " + dead, x, false, 7, 50, SPLICE);
                    echoes(apart + " apart from the end", x, true, 9, 50, SPLICE);
                }
            }
        }
        GlassThreads x = with("splice; splice; splice;");
        x.dead(0);
        echoes("at one distance", x, false, 0, 50, SPLICE);
    }

    // ".. of the SEEN one ahead": what isn't seen itself hides nothing
    private static void aboveTheSeenOne() {
        GlassThreads x = with("splice; run 4; splice; run 2; splice; run 4; splice; run 2; splice;");
        echoes("two and two", x, false, 0, 50, SPLICE, 6, 50, SPLICE, 12, 50, SPLICE);
        x.dead(6);
        echoes("DEAD 6", x, false, 0, 50, SPLICE, 10, 50, SPLICE);
        x.dead(9);
        echoes("DEAD 9", x, false, 0, 50, SPLICE, 10, 50, SPLICE);
        x.dead(10);
        echoes("DEAD 10", x, false, 0, 50, SPLICE, 12, 50, SPLICE);
        x.dead(12);
        echoes("DEAD 12", x, false, 0, 50, SPLICE);
        x.dead(5);
        Checks.law(x, "splice 39+(nth=1)+(nth=4);");
        echoes("small ones hide nothing", x, false, 0, 40, SPLICE, 10, 40, SPLICE);
    }

    private static void cutsAndDead() {
        for (int cut = 4; cut <= 7; cut++) {
            GlassThreads x = with("splice; run 20;");
            x.event(1, 0, 1, cut, 0);
            if (cut > 5) {
                echoes("cut at " + cut, x, false, 0, 50, SPLICE, cut, 0, CUT);
            } else {
                echoes("a cut too near", x, false, 0, 50, SPLICE);
            }
        }
    }

    // "for each PLUG that is SEEN and throws back 10 or more at a distance d above 0"
    private static void ghostsThrown() {
        for (int thrown = 8; thrown <= 12; thrown++) {
            GlassThreads x = with("run 20; plug " + thrown + "; run 30;");
            if (thrown < 10) {
                echoes(thrown + " throws too little", x, false, 20, 300, PLUG);
            } else {
                echoes(thrown + " makes a ghost", x, false, 20, 300, PLUG, 40, 1, GHOST);
            }
        }
        GlassThreads x = with("plug 99; run 30;");
        x.dead(0);
        echoes("none of a plug at 0", x, false, 0, 300, PLUG);
        GlassThreads y = with("run 1; plug 10; run 2;");
        y.dead(0);
        echoes("one of a plug at 1", y, false, 1, 300, PLUG, 2, 1, GHOST);
        GlassThreads z = with("run 20; splice; run 80;");
        Checks.law(z, "splice 300;");
        echoes("none of a splice", z, false, 20, 300, SPLICE);
    }

    // "if 2 d is less than the whole length up to where the ECHO ends"
    private static void ghostsAndTheWholeLength() {
        for (int rest = 19; rest <= 22; rest++) {
            GlassThreads x = with("run 20; plug 10; run " + rest + ";");
            GlassThreads toAmp = with("run 20; plug 10; run " + rest + "; amp 0 0; run 99;");
            GlassThreads toCut = with("run 20; plug 10; run 99;");
            x.dead(0);
            toAmp.dead(0);
            toCut.dead(0);
            toCut.event(1, 0, 2, rest, 0);
            if (rest > 20) {
                echoes("a whole of " + (20 + rest), x, false, 20, 300, PLUG, 40, 1, GHOST);
                echoes("up to the amp at " + (20 + rest), toAmp, false, 20, 300, PLUG, 40, 1, GHOST);
                echoes("up to the cut at " + (20 + rest), toCut, false,
                        20, 300, PLUG, 40, 1, GHOST, 20 + rest, 0, CUT);
            } else {
                echoes("a whole of " + (20 + rest), x, false, 20, 300, PLUG);
                echoes("up to the amp at " + (20 + rest), toAmp, false, 20, 300, PLUG);
                echoes("up to the cut at " + (20 + rest), toCut, false, 20, 300, PLUG, 20 + rest, 0, CUT);
            }
        }
        for (int ahead = 20; ahead <= 22; ahead++) {
            GlassThreads x = with("run " + ahead + "; plug 10; run 20;");
            if (ahead > 20) {
                echoes("from the end", x, true, 20, 300, PLUG, 40, 1, GHOST);
            } else {
                echoes("from the end", x, true, 20, 300, PLUG);
            }
        }
    }

    // "one at 2 d, if no SEEN one is within DEAD of that; size 1"
    private static void ghostsNearSeenOnes() {
        for (int place = 33; place <= 47; place++) {
            GlassThreads x = with("run 20; plug 10; run " + (place - 20) + "; splice; run 50;");
            if (place < 35) {
                echoes("a splice at " + place, x, false, 20, 300, PLUG, place, 50, SPLICE, 40, 1, GHOST);
            } else if (place > 45) {
                echoes("a splice at " + place, x, false, 20, 300, PLUG, 40, 1, GHOST, place, 50, SPLICE);
            } else {
                echoes("a splice at " + place, x, false, 20, 300, PLUG, place, 50, SPLICE);
            }
            Checks.law(x, "splice 39;");
            echoes("one that isn't seen", x, false, 20, 300, PLUG, 40, 1, GHOST);
        }
        for (int dead = 19; dead <= 21; dead++) {
            GlassThreads x = with("run 20; plug 10; run 99;");
            x.dead(dead);
            if (dead < 20) {
                echoes("the plug is further than " + dead, x, false, 20, 300, PLUG, 40, 1, GHOST);
            } else {
                echoes("the plug itself is within " + dead, x, false, 20, 300, PLUG);
            }
        }
        GlassThreads x = with("run 20; plug 10; run 20; splice; run 50;");
        x.dead(0);
        echoes("a splice at 2 d, DEAD 0", x, false, 20, 300, PLUG, 40, 50, SPLICE);
        GlassThreads y = with("run 20; plug 10; run 21; splice; run 50;");
        y.dead(0);
        echoes("a splice behind 2 d, DEAD 0", y, false, 20, 300, PLUG, 40, 1, GHOST, 41, 50, SPLICE);
        GlassThreads z = with("run 20; plug 10; run 19; splice; run 50;");
        z.dead(0);
        echoes("a splice ahead of 2 d, DEAD 0", z, false, 20, 300, PLUG, 39, 50, SPLICE, 40, 1, GHOST);
    }

    // "for each PLUG that is SEEN"
    private static void ghostsOfPlugsThatAreNotSeen() {
        for (int apart = 5; apart <= 6; apart++) {
            GlassThreads x = with("run 20; splice; run " + apart + "; plug 10; run 99;");
            if (apart == 5) {
                echoes("a plug too near", x, false, 20, 50, SPLICE);
            } else {
                echoes("a plug that is seen", x, false, 20, 50, SPLICE, 26, 300, PLUG, 52, 1, GHOST);
            }
        }
        for (int size = 39; size <= 40; size++) {
            GlassThreads x = with("run 20; splice; run 10; plug 10; run 99;");
            Checks.law(x, "plug " + size + ";");
            if (size == 39) {
                echoes("a plug too small", x, false, 20, 50, SPLICE);
            } else {
                echoes("a plug that is seen", x, false, 20, 50, SPLICE, 30, 40, PLUG, 60, 1, GHOST);
            }
        }
        GlassThreads x = with("run 20; plug 9; plug 99; run 50;");
        echoes("the second of one place isn't seen", x, false, 20, 300, PLUG);
        echoes("from the end the other one is", x, true, 50, 300, PLUG);
        GlassThreads y = with("run 50; plug 9; plug 99; run 20;");
        echoes("from the end it has a ghost", y, true, 20, 300, PLUG, 40, 1, GHOST);
    }

    // "A ROW of ECHOES: SEEN ones and GHOSTS by distances"
    private static void ghostsInTheRow() {
        GlassThreads x = with("run 20; plug 10; run 7; plug 10; run 3; plug 10; run 4; plug 10; run 500;");
        x.dead(2);
        echoes("ghosts behind and between", x, false, 20, 300, PLUG, 27, 300, PLUG, 30, 300, PLUG, 34, 300, PLUG,
                40, 1, GHOST, 54, 1, GHOST, 60, 1, GHOST, 68, 1, GHOST);
        x.event(0, 0, 8, 70, 0);
        x.event(1, 0, 8, 27, 0);
        echoes("up to the cut at 61", x, false, 20, 300, PLUG, 27, 300, PLUG, 30, 300, PLUG, 34, 300, PLUG,
                40, 1, GHOST, 54, 1, GHOST, 61, 0, CUT);
        GlassThreads y = with("run 10; plug 10; run 1; plug 10; run 50;");
        y.dead(0);
        echoes("ghosts don't hide one another", y, false, 10, 300, PLUG, 11, 300, PLUG, 20, 1, GHOST, 22, 1, GHOST);
    }

    /** Of 24 parts as many echoes as there can be: 11 plugs with 11 ghosts, 13 bends and a cut. */
    private static void fullestRow() {
        StringBuilder text = new StringBuilder("run 7;plug 10;");
        for (int i = 1; i < 11; i++) {
            text.append("run 10;plug 10;");
        }
        GlassThreads x = with(text + "run 1000;run 20;");
        x.dead(0);
        for (int part = 0; part < 24; part++) {
            if (part % 2 == 0 || part == 23) {
                x.event(0, 0, part, 40, 0);
            }
        }
        x.event(1, 0, 23, 20, 0);
        int[][] due = new int[36][];
        due[0] = new int[] {3, 40, BENT};
        for (int i = 0; i < 11; i++) {
            due[1 + i] = new int[] {7 + 10 * i, 300, PLUG};
            due[12 + i] = new int[] {14 + 20 * i, 1, GHOST};
            due[23 + i] = new int[] {12 + 10 * i, 40, BENT};
        }
        due[33] = new int[] {107 + 500, 40, BENT};
        due[34] = new int[] {1107 + 10, 40, BENT};
        due[35] = new int[] {1127, 0, CUT};
        Arrays.sort(due, (a, b) -> a[0] - b[0]);
        int[] flat = new int[108];
        for (int i = 0; i < 108; i++) {
            flat[i] = due[i / 3][i % 3];
        }
        echoes("the fullest row", x, false, flat);
        x.look(0);
        x.seen(false);
        Checks.is("no set makes it without its cut", 0, x.readBack(0));
    }

    // "no such THREAD, colour, DAY (as everywhere)"; "no such EVENING (0 to TONIGHT)"
    private static void echoRefused() {
        GlassThreads x = with("splice;");
        x.evenings(2);
        x.echo(0, 0, false, 0, 0);
        int[] threads = {-1, 1, LEAST, MOST};
        int[] colours = {-1, 8, LEAST, MOST};
        int[] days = {-1, 36500, LEAST, MOST};
        int[] evenings = {-1, 3, LEAST, MOST};
        for (int i = 0; i < 4; i++) {
            int n = i;
            Checks.noSuch("thread", () -> x.echo(threads[n], 0, false, 0, 0));
            Checks.noSuch("thread, ahead of the evening", () -> x.echo(threads[n], 0, true, 0, 3));
            Checks.noSuch("colour", () -> x.echo(0, colours[n], false, 0, 0));
            Checks.noSuch("colour, ahead of the evening", () -> x.echo(0, colours[n], true, 0, 3));
            Checks.noSuch("day", () -> x.echo(0, 0, false, days[n], 0));
            Checks.noSuch("day, ahead of the evening", () -> x.echo(0, 0, true, days[n], 3));
            Checks.illegal("evening", () -> x.echo(0, 0, false, 0, evenings[n]));
        }
        rowIs("it is kept", x, 0, 50, SPLICE);
        Checks.law(x, "splice 60+colour;");
        Checks.is("the last colour, day, evening", 1, x.echo(0, 7, true, 36499, 2));
        rowIs("another one", x, 0, 67, SPLICE);
    }

    // "NoSuchElementException: there is none, another what."
    private static void echoesOfTheRow() {
        GlassThreads x = with("splice; run 20; plug 0;");
        for (int what = 0; what < 3; what++) {
            int number = what;
            Checks.noSuch("no row yet", () -> x.echoed(0, number));
            Checks.noSuch("no row yet, NONE", () -> x.echoed(NONE, number));
        }
        Checks.is("two", 2, x.echo(0, 0, false, 0, 0));
        int[] bad = {-1, 3, LEAST, MOST};
        for (int b : bad) {
            Checks.noSuch("what " + b, () -> x.echoed(0, b));
            Checks.noSuch("what " + b + " of the last", () -> x.echoed(1, b));
            Checks.noSuch("echo " + b, () -> x.echoed(b, 0));
        }
        Checks.noSuch("echo 2", () -> x.echoed(2, 0));
        rowIs("two", x, 0, 50, SPLICE, 20, 300, PLUG);
        Checks.thread(x, "run 9;", 0);
        Checks.is("an empty row", 0, x.echo(1, 0, false, 0, 0));
        rowIs("an empty row is kept, too", x);
    }

    // "how many are in the ROW; it is kept"
    private static void rowIsKept() {
        GlassThreads x = with("splice; run 20; plug 50; run 90;");
        Checks.thread(x, "run 9;", 0);
        Checks.is("three", 3, x.echo(0, 0, false, 0, 0));
        x.look(0);
        x.suspect(1, 70);
        x.seen(true);
        x.seen(false);
        x.readBack(0);
        x.level(1, 0, 0, 0, false, 0, 0);
        x.dead(99);
        x.event(1, 0, 1, 0, 0);
        x.lamps(1, 1, 0, 0, 0, 0, 0, 0);
        x.sheet(0, 3);
        Checks.is("no part", 3, x.rowOf(0, 1, 1));
        Checks.illegal("no such n", () -> x.rowOf(0, 0, 9));
        Checks.noSuch("no such sheet", () -> x.rowOf(1, 0, 0));
        Checks.noSuch("no such thread", () -> x.echo(2, 0, false, 0, 0));
        rowIs("it is kept", x, 0, 50, SPLICE, 20, 300, PLUG, 40, 1, GHOST);
        Checks.is("one row for both sides can't be", 0, x.readBack(0));
        x.dead(5);
        x.look(0);
        x.suspect(1, 70);
        x.seen(false);
        x.echo(1, 0, false, 0, 0);
        Checks.is("another row that is kept isn't told", 1, x.readBack(0));
    }

    // "READ BACK begins anew, of a THREAD (no SUSPECTS, no ROWS; what is kept of sets stays)"
    private static void looks() {
        GlassThreads x = with("run 10; splice; run 20;");
        Checks.noSuch("thread 1", () -> x.look(1));
        Checks.noSuch("thread -1", () -> x.look(-1));
        Checks.thread(x, "splice; run 30;", 0);
        x.look(0);
        x.suspect(0, 50);
        x.suspect(2, 60);
        x.event(0, 0, 2, 60, 0);
        x.echo(0, 0, false, 0, 0);
        x.seen(false);
        Checks.is("one is hidden", 1, x.readBack(0));
        Checks.noSuch("thread 2", () -> x.look(2));
        Checks.is("suspects stay", 2, x.count(6));
        Checks.is("rows stay", 1, x.readBack(0));
        x.look(1);
        Checks.is("no suspects", 0, x.count(6));
        Checks.is("what is kept of sets stays", 2, x.found(0));
        Checks.noSuch("parts of the other thread", () -> x.suspect(2, 60));
        Checks.is("no run there", NONE, x.suspect(0, 60));
        Checks.is("a run there", 1, x.suspect(1, 60));
        Checks.is("no rows", 2, x.readBack(0));
        Checks.is("the sets of the other thread", 1, x.found(2));
        x.look(1);
        Checks.is("the same thread anew", 0, x.count(6));
    }

    // "SUSPECTS (RUNS, at most 8, each with a size)"; "NONE: there are 8, it is one, it is no RUN, .. 1 to 20000"
    private static void suspects() {
        GlassThreads x = with("run 1;".repeat(9) + "splice; plug 5; amp 1 1;");
        x.look(0);
        int[] sizes = {-1, 0, 20001, LEAST, MOST};
        for (int size : sizes) {
            Checks.is("size " + size, NONE, x.suspect(0, size));
        }
        for (int part = 9; part < 12; part++) {
            Checks.is("part " + part + " is no run", NONE, x.suspect(part, 5));
        }
        int[] parts = {-1, 12, LEAST, MOST};
        for (int part : parts) {
            Checks.noSuch("part " + part, () -> x.suspect(part, 5));
            Checks.noSuch("part " + part + " ahead of its size", () -> x.suspect(part, 0));
        }
        Checks.is("none so far", 0, x.count(6));
        int[] good = {1, 2, 19999, 20000, 5, 6, 7, 8};
        for (int i = 0; i < 8; i++) {
            Checks.is("suspect " + i, i + 1, x.suspect(i, good[i]));
            Checks.is("it is one", NONE, x.suspect(i, good[i]));
            Checks.is("how many", i + 1, x.count(6));
        }
        Checks.is("a ninth one", NONE, x.suspect(8, 5));
        Checks.is("eight", 8, x.count(6));
        Checks.noSuch("part 12 even then", () -> x.suspect(12, 5));
        Checks.is("256 sets", 256, x.readBack(0));
        Checks.is("all of them hidden", 255, x.found(2));
    }

    // "or no look() yet"; "NoSuchElementException: no look() yet."; "also no look() yet."
    private static void noLookYet() {
        GlassThreads x = with("run 10; splice;");
        Checks.noSuch("suspect", () -> x.suspect(0, 5));
        Checks.noSuch("seen, no row", () -> x.seen(false));
        Checks.noSuch("readBack", () -> x.readBack(0));
        x.echo(0, 0, false, 0, 0);
        Checks.noSuch("seen, with a row", () -> x.seen(true));
        Checks.noSuch("a look at no thread", () -> x.look(1));
        Checks.noSuch("suspect still", () -> x.suspect(0, 5));
        Checks.noSuch("seen still", () -> x.seen(false));
        Checks.noSuch("readBack still", () -> x.readBack(0));
        Checks.is("no suspects", 0, x.count(6));
        x.look(0);
        Checks.is("suspect", 1, x.suspect(0, 5));
        Checks.is("seen", true, x.seen(false));
        Checks.is("readBack", 1, x.readBack(0));
    }

    // "The ROW that is kept is told, in place of another one of that side: true. False: there is none."
    private static void rowsTold() {
        GlassThreads x = with("run 10; splice; run 30;");
        x.look(0);
        Checks.is("no row", false, x.seen(false));
        Checks.is("no row from the end", false, x.seen(true));
        Checks.is("so none was told", 1, x.readBack(0));
        x.suspect(0, 50);
        x.suspect(2, 60);
        x.echo(0, 0, false, 0, 0);
        Checks.is("one", true, x.seen(false));
        Checks.is("one for two sides", 1, x.readBack(0));
        Checks.is("told as from the end, too", true, x.seen(true));
        Checks.is("which can't be", 0, x.readBack(0));
        x.echo(0, 0, true, 0, 0);
        Checks.is("in its place", true, x.seen(true));
        Checks.is("just the unbent one", 1, x.readBack(0));
        x.sheet(2, 3);
        Checks.is("a row of none", 0, x.rowOf(0, 0, 0));
        Checks.is("is a row", true, x.seen(false));
        Checks.is("a thread without a step isn't it", 0, x.readBack(0));
        GlassThreads y = with("run 10; run 9;");
        y.sheet(2, 0);
        Checks.is("no steps, an empty row", 0, y.echo(0, 0, false, 0, 0));
        y.look(0);
        y.suspect(1, 40);
        Checks.is("told", true, y.seen(false));
        Checks.is("just the unbent one", 1, y.readBack(0));
        Checks.is("the empty set", 0, y.found(0));
    }

    // "make just the ROWS that were told .. (each with distance and size of all in it)"
    private static void justTheRows() {
        GlassThreads x = with("splice; run 20; splice; run 20; plug 5;");
        int[] row = {0, 50, SPLICE, 20, 50, SPLICE, 30, 70, BENT, 40, 300, PLUG};
        x.sheet(2, 24);
        for (int i = 0; i < row.length; i++) {
            x.write(0, i, row[i]);
        }
        x.look(0);
        x.suspect(1, 39);
        x.suspect(3, 70);
        x.rowOf(0, 0, 4);
        x.seen(false);
        Checks.is("as it is", 2, x.readBack(0));
        for (int i = 0; i < row.length; i++) {
            for (int more = -1; more <= 1; more += 2) {
                x.write(0, i, row[i] + more);
                if (x.rowOf(0, 0, 4) == 0) {
                    x.seen(false);
                    Checks.is("place " + i + " other by " + more, i % 3 == 2 ? 2 : 0, x.readBack(0));
                }
            }
            x.write(0, i, row[i]);
        }
        x.rowOf(0, 0, 3);
        x.seen(false);
        Checks.is("one too few", 0, x.readBack(0));
        x.rowOf(0, 3, 3);
        x.seen(false);
        Checks.is("without its first", 0, x.readBack(0));
        x.write(0, 12, 50);
        x.rowOf(0, 0, 5);
        x.seen(false);
        Checks.is("one too many", 0, x.readBack(0));
        x.rowOf(0, 0, 4);
        x.seen(false);
        Checks.is("as it is", 2, x.readBack(0));
    }

    // "if just these RUNS were BENT by so much (and nothing else of the THREAD were BENT, CUT, OFF)"; "at age 0"
    private static void justTheseRuns() {
        GlassThreads x = with("run 10; splice; run 20; run 40; splice; amp 5 5;");
        Checks.thread(x, "run 3; splice;", 0);
        Checks.law(x, "splice 50+age+100*colour;");
        x.echo(0, 0, false, 0, 0);
        x.look(0);
        x.suspect(3, 70);
        x.seen(false);
        x.event(0, 0, 0, 80, 0);
        x.event(0, 0, 3, 90, 0);
        x.event(1, 0, 2, 0, 0);
        x.event(2, 0, 5, 0, 0);
        Checks.is("level behind all of it", -100000, x.level(0, 5, 0, 0, false, 36499, 0));
        Checks.is("just the unbent one", 1, x.readBack(0));
        Checks.is("the empty set", 0, x.found(0));
        x.level(1, 0, 7, 0, false, 36499, 0);
        Checks.is("whatever was asked of another thread", 1, x.readBack(0));
        Checks.is("the empty set again", 0, x.found(0));
        Checks.is("another colour", 0, x.readBack(1));
        int[] deads = {39, 40, 59, 60};
        int[] due = {1, 2, 2, 0};
        for (int i = 0; i < 4; i++) {
            x.dead(deads[i]);
            Checks.is("the bend is 40, the other splice 60 behind the first, DEAD " + deads[i], due[i], x.readBack(0));
        }
    }

    // "0 the first set as bits (NONE: there is none), 1 .. in all of them, 2 HIDDEN ones (0 if there is none)"
    private static void whatIsFound() {
        GlassThreads x = with("run 10; splice; run 6; run 8; run 50;");
        for (int what = -1; what <= 3; what++) {
            int number = what;
            Checks.noSuch("nothing is kept", () -> x.found(number));
        }
        x.look(0);
        x.suspect(2, 40);
        x.suspect(4, 70);
        x.suspect(3, 39);
        Checks.noSuch("nothing is kept yet", () -> x.found(0));
        x.event(0, 0, 4, 70, 0);
        x.echo(0, 0, false, 0, 0);
        x.seen(false);
        Checks.is("the second, and two that can't be seen", 4, x.readBack(0));
        foundIs("some", x, 2, 2, 5);
        Checks.noSuch("colour 8", () -> x.readBack(8));
        Checks.noSuch("colour -1", () -> x.readBack(-1));
        foundIs("they stay", x, 2, 2, 5);
        int[] bad = {-1, 3, LEAST, MOST};
        for (int what : bad) {
            Checks.noSuch("what " + what, () -> x.found(what));
        }
        x.rowOf(x.sheet(0, 0), 0, 0);
        x.seen(false);
        Checks.is("no set", 0, x.readBack(0));
        foundIs("none", x, NONE, 0, 0);
        x.look(0);
        Checks.is("no suspects: the empty set", 1, x.readBack(7));
        foundIs("the empty set", x, 0, 0, 0);
        x.suspect(0, 50);
        Checks.is("no rows: both sets", 2, x.readBack(0));
        foundIs("both", x, 0, 0, 1);
    }

    private static void foundIs(String what, GlassThreads x, int... due) {
        for (int i = 0; i < 3; i++) {
            Checks.is(what + ", found " + i, due[i], x.found(i));
        }
    }
}
