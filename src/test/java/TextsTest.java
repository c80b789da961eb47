/** Promises 1 to 7: the tape, threads, laws, faults, parts and losses. */
public final class TextsTest {
    private static final int NONE = GlassThreads.NONE;

    public static void main(String[] args) {
        newObject();
        tape();
        threads();
        threadFaults();
        threadLimits();
        threadRefusals();
        parts();
        laws();
        lawFaults();
        lawLimits();
        losses();
        lossValues();
        Checks.end();
    }

    private static void newObject() {
        GlassThreads x = new GlassThreads();
        Checks.is("NONE", -1, NONE);
        for (int what = 0; what <= 7; what++) {
            Checks.is("new count " + what, 0, x.count(what));
        }
        Checks.is("new fault", NONE, x.fault());
        Checks.is("new dead", 5, x.dead(5));
        Checks.is("new way", 0, x.along(NONE));
        Checks.noSuch("new row", () -> x.echoed(0, 0));
        Checks.noSuch("new thread", () -> x.part(0, 0, 0));
        Checks.noSuch("count -1", () -> x.count(-1));
        Checks.noSuch("count 8", () -> x.count(8));
    }

    private static void tape() {
        GlassThreads x = new GlassThreads();
        for (int i = 1; i <= 20; i++) {
            Checks.is("feed", 20 * i, x.feed(0, 0, 0, 0, 0));
        }
        Checks.is("full tape", NONE, x.feed(1, 2, 3, 4, 5));
        Checks.is("full tape stays", 400, x.count(7));
        Checks.illegal("too many bytes", () -> x.thread(401, 0));
        Checks.illegal("bytes below 0", () -> x.law(-1));
        Checks.is("tape stays", 400, x.count(7));
        Checks.is("a zero byte", 1, x.law(400));
        Checks.is("at its place", 0, x.fault());
        Checks.is("tape is empty", 0, x.count(7));
        Checks.illegal("empty tape", () -> x.law(1));
        Checks.is("fault stays", 0, x.fault());
        // the highest byte of each number comes first: "run 12;" and blanks
        x.feed('r' << 24 | 'u' << 16 | 'n' << 8 | ' ', '1' << 24 | '2' << 16 | ';' << 8 | ' ', 0, 0, 0);
        Checks.is("bytes in order", 0, x.thread(8, 0));
        Checks.is("its length", 12, x.part(0, 0, 1));
        Checks.is("bytes behind n are gone", 0, x.count(7));
        Checks.feed(x, "splice 123456;");
        Checks.is("digits behind n don't count", 1, x.law(12));
        Checks.is("the text ends there", 12, x.fault());
        Checks.feed(x, "splices;");
        Checks.is("nor letters", -2, x.thread(6, 0));
        Checks.is("its end", 6, x.fault());
    }

    private static void threads() {
        GlassThreads x = new GlassThreads();
        Checks.is("first", 0, Checks.thread(x, "run 1;", 0));
        Checks.is("no blanks", 1, Checks.thread(x, "run9999;splice;plug0;amp0 0;", 99));
        Checks.is("blanks and lines", 2, Checks.thread(x, " \n run\n00012 ; \n plug 99 ;amp 40000\n30000; ", 5));
        Checks.is("no fault", NONE, x.fault());
        Checks.is("threads", 3, x.count(1));
        Checks.is("leading zeros", 12, x.part(2, 0, 1));
    }

    static void threadFault(String text, int kind, int place) {
        GlassThreads x = new GlassThreads();
        Checks.is("fault of '" + text + "'", -1 - kind, Checks.thread(x, text, 0));
        Checks.is("its place in '" + text + "'", place, x.fault());
        Checks.is("no thread of '" + text + "'", 0, x.count(1));
        Checks.is("empty tape behind '" + text + "'", 0, x.count(7));
    }

    private static void threadFaults() {
        threadFault("", 1, 0);
        threadFault("  ", 1, 2);
        threadFault("run", 1, 3);
        threadFault("run 5", 1, 5);
        threadFault("run 5 ", 1, 6);
        threadFault("run 5; x", 1, 7);
        threadFault("run 5; run x;", 1, 11);
        threadFault("run 5 6;", 1, 6);
        threadFault("run 5;;", 1, 6);
        threadFault("Run 5;", 1, 0);
        threadFault("run\t5;", 1, 3);
        threadFault("run 5;\u00e9", 1, 6);
        threadFault("runs 5;", 1, 0);
        threadFault("noise 5;", 1, 0);
        threadFault("run (5);", 1, 4);
        threadFault("run 0;", 2, 4);
        threadFault("run 10000;", 2, 4);
        threadFault("run 99999;", 2, 4);
        threadFault("run 000001;", 2, 4);
        threadFault("run 123456789012;", 2, 4);
        threadFault("run 0 x", 2, 4);
        threadFault("plug 100;", 2, 5);
        threadFault("plug;", 1, 4);
        threadFault("amp 40001 0;", 2, 4);
        threadFault("amp 0 30001;", 2, 6);
        threadFault("amp 0;", 1, 5);
        threadFault("amp;", 1, 3);
        threadFault("splice 5;", 1, 7);
        threadFault("splice 555555;", 1, 7);
        threadFault("5;", 1, 0);
        threadFault("123456;", 1, 0);
    }

    private static void threadLimits() {
        GlassThreads x = new GlassThreads();
        Checks.is("24 parts", 0, Checks.thread(x, "splice;".repeat(24), 0));
        threadFault("splice;".repeat(24) + " run", 2, 169);
        threadFault("splice;".repeat(24) + " amp", 2, 169);
        threadFault("splice;".repeat(24) + " ;", 1, 169);
        threadFault("splice;".repeat(24) + "run0", 2, 168);
        Checks.is("6 amps", 1, Checks.thread(x, "amp 1 1;".repeat(6), 0));
        threadFault("amp 1 1;".repeat(6) + "amp", 2, 48);
        threadFault("amp 1 1;".repeat(6) + "run 1;amp", 2, 54);
    }

    private static void threadRefusals() {
        GlassThreads x = new GlassThreads();
        Checks.thread(x, "run", 0);
        Checks.is("a fault first", 3, x.fault());
        Checks.is("year 100", -9, Checks.thread(x, "run", 100));
        Checks.is("no fault then", NONE, x.fault());
        Checks.is("year -1", -9, Checks.thread(x, "run 1;", -1));
        Checks.is("empty tape", 0, x.count(7));
        for (int i = 0; i < 8; i++) {
            Checks.is("thread " + i, i, Checks.thread(x, "run " + (i + 1) + ";", i));
        }
        Checks.is("the ninth", -9, Checks.thread(x, "run", 0));
        Checks.is("no fault then either", NONE, x.fault());
        Checks.is("eight", 8, x.count(1));
        Checks.is("the last one stays", 8, x.part(7, 0, 1));
        Checks.illegal("bytes ahead of the rest", () -> x.thread(1, 100));
    }

    private static void parts() {
        GlassThreads x = new GlassThreads();
        int t = Checks.thread(x, "run 7; splice; plug 9; amp 11 13;", 0);
        int[][] due = {{0, 7, 0}, {1, 0, 0}, {2, 9, 0}, {3, 11, 13}};
        for (int part = 0; part < 4; part++) {
            for (int what = 0; what < 3; what++) {
                Checks.is("part " + part + ", " + what, due[part][what], x.part(t, part, what));
            }
        }
        Checks.is("how many", 4, x.part(t, NONE, 0));
        Checks.noSuch("how many 1", () -> x.part(t, NONE, 1));
        Checks.noSuch("part -2", () -> x.part(t, -2, 0));
        Checks.noSuch("part 4", () -> x.part(t, 4, 0));
        Checks.noSuch("what 3", () -> x.part(t, 0, 3));
        Checks.noSuch("what -1", () -> x.part(t, 0, -1));
        Checks.noSuch("thread 1", () -> x.part(1, NONE, 0));
        Checks.noSuch("thread -1", () -> x.part(-1, NONE, 0));
        // a text with a fault must leave nothing behind in the next thread
        Checks.thread(x, "amp 1 2; amp 3 4; amp", 0);
        int next = Checks.thread(x, "splice;", 0);
        Checks.is("numbers are fresh", 0, x.part(next, 0, 1) + x.part(next, 0, 2));
    }

    /** What an expression is worth, as the loss of a splice (clamped to 0 .. 99999). */
    static void worth(String expression, int due) {
        GlassThreads x = new GlassThreads();
        Checks.thread(x, "splice;", 0);
        Checks.is("law '" + expression + "'", 0, Checks.law(x, "splice " + expression + ";"));
        Checks.is("fault of '" + expression + "'", NONE, x.fault());
        Checks.is("worth of '" + expression + "'", due, x.loss(0, 0, 3, 7));
    }

    private static void laws() {
        worth("5", 5);
        worth("99999", 99999);
        worth("99999+1", 99999);
        worth("0-5", 0);
        worth("2+3*4", 14);
        worth("2*3+4", 10);
        worth("20-5-3", 12);
        worth("100/7/2", 7);
        worth("7/2*2", 6);
        worth("10-(0-7)/2", 13);
        worth("5/0", 0);
        worth("1<2", 1);
        worth("2<2", 0);
        worth("2=2", 1);
        worth("1+1=2", 1);
        worth("not 0", 1);
        worth("not 5", 0);
        worth("not not 5", 1);
        worth("not 1<2", 0);
        worth("not 3+1", 0);
        worth("not 0 and 2", 1);
        worth("3 and 4", 1);
        worth("3 and 0", 0);
        worth("0 or 7", 1);
        worth("0 or 0", 0);
        worth("1 or 0 and 0", 1);
        worth("(1 or 0) and 0", 0);
        worth("1 < 2 and 2 < 1 or 5 = 5", 1);
        worth("not 1 = 2 or 0", 1);
        worth("(1<2)*50+7", 57);
        worth("99999*99999/50000", 28197);
        worth("60000*60000", 0);
        worth("0-60000*60000/50000", 13899);
        worth("colour*10+age", 37);
        worth("length+size", 0);
        worth("nth", 1);
    }

    static void lawFault(String text, int kind, int place) {
        GlassThreads x = new GlassThreads();
        Checks.thread(x, "run 5;splice;", 0);
        Checks.law(x, "run 77;");
        Checks.is("fault of '" + text + "'", kind, Checks.law(x, text));
        Checks.is("its place in '" + text + "'", place, x.fault());
        Checks.is("the law ahead stays, '" + text + "'", 77, x.loss(0, 0, 0, 0));
        Checks.is("its other clauses too, '" + text + "'", 50, x.loss(0, 1, 0, 0));
    }

    private static void lawFaults() {
        lawFault("splice", 1, 6);
        lawFault("splice 1", 1, 8);
        lawFault("splice ;", 1, 7);
        lawFault("amp 1;", 1, 0);
        lawFault("length 1;", 1, 0);
        lawFault(";", 1, 0);
        lawFault("splice 1; 5", 1, 10);
        lawFault("splice 1 2;", 1, 9);
        lawFault("splice 1 age;", 1, 9);
        lawFault("splice 1 not;", 1, 9);
        lawFault("splice 1+;", 1, 9);
        lawFault("splice 1+", 1, 9);
        lawFault("splice -1;", 1, 7);
        lawFault("splice 1<2<3;", 1, 10);
        lawFault("splice 1=2<3;", 1, 10);
        lawFault("splice (1;", 1, 9);
        lawFault("splice 1);", 1, 8);
        lawFault("splice ();", 1, 8);
        lawFault("splice (1", 1, 9);
        lawFault("splice 1 & 2;", 1, 9);
        lawFault("splice not;", 1, 10);
        lawFault("splice 123456;", 2, 7);
        lawFault("splice 1+000000;", 2, 9);
        lawFault("splice 1 123456;", 1, 9);
        lawFault("splice x;", 3, 7);
        lawFault("splice run;", 3, 7);
        lawFault("splice or 1;", 3, 7);
        lawFault("splice 1+not 1;", 3, 9);
        lawFault("splice 1<not 1;", 3, 9);
        lawFault("splice not and;", 3, 11);
        lawFault("splice ages;", 3, 7);
        lawFault("splice 1 and (colour + noise);", 3, 23);
        lawFault("splice 1; run x", 3, 14);
    }

    private static void lawLimits() {
        worth("(((((1)))))", 1);
        lawFault("splice ((((((1))))));", 2, 13);
        lawFault("splice ((((((x))))));", 2, 13);
        lawFault("splice ((((((or", 2, 13);
        lawFault("splice ((((((not 1))))));", 2, 13);
        lawFault("splice (((((((1)))))));", 2, 13);
        lawFault("splice ((((((123456))))));", 2, 13);
        lawFault("splice (((((()))))));", 1, 13);
        lawFault("splice ((((((;", 1, 13);
        lawFault("splice ((((((+", 1, 13);
        lawFault("splice ((((((", 1, 13);
        lawFault("splice ((((((?", 1, 13);
        lawFault("splice 1+2*(3 and (4<(5-(6/(7 or (8))))));", 2, 34);
        worth("1+(((((2)))))*(((((3)))))", 7);
        worth("not not not not not not 9", 1);
        lawFault("splice not not not not not not not 9;", 2, 31);
        worth("not not not not (not not not 9)", 0);
        worth("not not not not not not 9 and not not not not not not 9", 1);
        GlassThreads x = new GlassThreads();
        Checks.is("16 clauses", 0, Checks.law(x, "run 1;".repeat(16)));
        lawFault("run 1;".repeat(16) + "noise", 2, 96);
        lawFault("run 1;".repeat(16) + "x", 1, 96);
        lawFault("run 1;".repeat(16) + "amp", 1, 96);
        StringBuilder sum = new StringBuilder("splice 1");
        while (sum.length() < 397) {
            sum.append("+1");
        }
        Checks.thread(x, "splice;", 0);
        Checks.is("a long text", 0, Checks.law(x, sum.append(";").toString()));
        Checks.is("its sum", 196, x.loss(0, 0, 0, 0));
    }

    private static void losses() {
        GlassThreads x = new GlassThreads();
        int t = Checks.thread(x, "run 9999; splice; plug 9; amp 11 13;", 0);
        int[] usual = {19998, 50, 300, 200};
        for (int part = 0; part < 4; part++) {
            Checks.is("usual loss " + part, usual[part], x.loss(t, part, 7, 99));
        }
        Checks.is("law", 0, Checks.law(x, "run 1; run 2; noise 3;"));
        Checks.is("the last of like ones", 2, x.loss(t, 0, 0, 0));
        Checks.is("noise", 3, x.loss(t, 3, 0, 0));
        Checks.is("others as usual", 50, x.loss(t, 1, 0, 0));
        Checks.is("empty law", 0, Checks.law(x, " "));
        Checks.is("usual again", 19998, x.loss(t, 0, 0, 0));
        Checks.noSuch("thread", () -> x.loss(1, 0, 0, 100));
        Checks.noSuch("part", () -> x.loss(t, 4, 0, 100));
        Checks.noSuch("no part NONE", () -> x.loss(t, NONE, 0, 0));
        Checks.noSuch("colour 8", () -> x.loss(t, 0, 8, 100));
        Checks.noSuch("colour -1", () -> x.loss(t, 0, -1, 0));
        Checks.illegal("age 100", () -> x.loss(t, 0, 7, 100));
        Checks.illegal("age -1", () -> x.loss(t, 0, 0, -1));
    }

    private static void lossValues() {
        GlassThreads x = new GlassThreads();
        int t = Checks.thread(x, "run 3; plug 5; amp 7 9; run 4; splice; plug 6; amp 8 1; run 2; splice;", 50);
        String all = " colour*10000+length*1000+size*100+nth*10+age;";
        Checks.is("law", 0, Checks.law(x, "run" + all + "splice" + all + "plug" + all + "noise" + all));
        int[] due = {23011, 20511, 20711, 24021, 20011, 20621, 20821, 22031, 20021};
        for (int part = 0; part < due.length; part++) {
            Checks.is("values of part " + part, due[part], x.loss(t, part, 2, 1));
        }
    }
}
