/**
 * Promises 1 to 7 at their bounds. Above each test stands the sentence of the document that it is
 * for; it asks on the bound, just below it and just above it.
 */
public final class TextBoundsTest {
    private static final int NONE = GlassThreads.NONE;
    private static final String[] WORDS = {"run", "splice", "plug", "amp", "noise", "or", "and", "not", "colour",
        "age", "length", "size", "nth", "x", "ru", "runs", "splic", "nots", "o", "an", "ag", "nthh", "sizes", "amps"};

    public static void main(String[] args) {
        fullTape();
        howManyBytes();
        longTexts();
        everyByteInALaw();
        everyByteInAThread();
        everyWord();
        digits();
        numbersOfParts();
        parts();
        amps();
        clauses();
        expressionsWithinOthers();
        notsSideBySide();
        textsThatEndTooSoon();
        wrappingNumbers();
        cutDownTo0();
        tests();
        whatHolds();
        likeClauses();
        lossBounds();
        usualLosses();
        threadsAndYears();
        latestFault();
        lawsInARow();
        refusedLaws();
        numbersAtOnce();
        nthOfItsKind();
        partNumbers();
        coloursAndAges();
        longLife();
        Checks.end();
    }

    // "how many it has; NONE, and none come, if it would have more than 400"
    private static void fullTape() {
        GlassThreads x = new GlassThreads();
        for (int i = 0; i < 19; i++) {
            x.feed(0x20202020, 0x20202020, 0x20202020, 0x20202020, 0x20202020);
        }
        Checks.is("380 bytes", 380, x.count(7));
        Checks.is("just 400", 400, x.feed(0x20202020, 0x20202020, 0x20202020, 0x20202020, 0x73706C69));
        Checks.is("no more", NONE, x.feed(0x73706C69, 0x20202020, 0x20202020, 0x20202020, 0x20202020));
        Checks.is("none came", 400, x.count(7));
        Checks.is("what is there stays", 1, x.law(400));
        Checks.is("its last word's place", 396, x.fault());
        Checks.is("empty: twenty again", 20, x.feed(0, 0, 0, 0, 0));
    }

    // "IllegalArgumentException: the tape has not so many, n below 0 (nothing changes)"
    private static void howManyBytes() {
        GlassThreads x = new GlassThreads();
        Checks.is("none of none", 0, x.law(0));
        Checks.illegal("one of none", () -> x.law(1));
        Checks.illegal("one of none for a thread", () -> x.thread(1, 0));
        Checks.is("a fault", 1, Checks.law(x, "splice"));
        Checks.feed(x, "splice 7;           ");
        Checks.illegal("21 of 20", () -> x.law(21));
        Checks.illegal("21 of 20 for a thread", () -> x.thread(21, 0));
        Checks.illegal("-1", () -> x.law(-1));
        Checks.illegal("-1 for a thread, ahead of its year", () -> x.thread(-1, 100));
        Checks.illegal("far too many", () -> x.thread(Integer.MAX_VALUE, 0));
        Checks.illegal("far below", () -> x.law(Integer.MIN_VALUE));
        Checks.is("the tape stays", 20, x.count(7));
        Checks.is("the fault stays", 6, x.fault());
        Checks.is("no thread", 0, x.count(1));
        Checks.is("20 of 20", 0, x.law(20));
        Checks.feed(x, "splice 7;           ");
        Checks.is("19 of 20", 0, x.law(19));
        Checks.is("it is empty then", 0, x.count(7));
        Checks.feed(x, "splice;             ");
        Checks.is("0 of 20: a thread has one part at least", -2, x.thread(0, 0));
        Checks.is("its place", 0, x.fault());
        Checks.is("empty then, too", 0, x.count(7));
    }

    // "TEXTS, at most 400 bytes"
    private static void longTexts() {
        GlassThreads x = new GlassThreads();
        String blanks = " ".repeat(393);
        Checks.is("a thread of 400", 0, Checks.thread(x, blanks + "splice;", 0));
        Checks.is("a law of 400", 0, Checks.law(x, " ".repeat(391) + "splice 7;"));
        Checks.is("its last byte counts", 7, x.loss(0, 0, 0, 0));
        Checks.is("a fault at the last byte", 1, Checks.law(x, " ".repeat(391) + "splice 7("));
        Checks.is("its place", 399, x.fault());
        Checks.is("a fault at the end", 1, Checks.law(x, " ".repeat(391) + "splice 77"));
        Checks.is("its place", 400, x.fault());
        Checks.is("a thread's fault at the end", -2, Checks.thread(x, blanks + " splice", 0));
        Checks.is("its place", 400, x.fault());
        Checks.is("a number up to the end", 2, Checks.law(x, " ".repeat(387) + "splice 123456"));
        Checks.is("its first byte", 394, x.fault());
        Checks.is("400 bytes, a point too few", 1, Checks.law(x, "run" + "1+".repeat(198) + "+"));
        Checks.is("its place", 399, x.fault());
        Checks.is("400 bytes, a sign too few", 1, Checks.law(x, "run" + "1+".repeat(198) + "1"));
        Checks.is("its place", 400, x.fault());
        Checks.is("399 bytes, all tokens but one", 0, Checks.law(x, "run" + "1+".repeat(197) + "1;"));
        Checks.is("blanks alone", 0, Checks.law(x, " ".repeat(400)));
        Checks.is("no fault", NONE, x.fault());
    }

    private static boolean isLetter(int b) {
        return b >= 97 && b <= 122;
    }

    private static boolean isDigit(int b) {
        return b >= 48 && b <= 57;
    }

    private static boolean isBlank(int b) {
        return b == 32 || b == 10;
    }

    private static void lawIs(String text, int kind, int place) {
        if (kind == 0) {
            GlassThreads x = new GlassThreads();
            Checks.is("law '" + text + "'", 0, Checks.law(x, text));
            Checks.is("no fault of '" + text + "'", NONE, x.fault());
        } else {
            TextsTest.lawFault(text, kind, place);
        }
    }

    private static void threadIs(String text, int kind, int place) {
        if (kind == 0) {
            GlassThreads x = new GlassThreads();
            Checks.is("thread '" + text + "'", 0, Checks.thread(x, text, 0));
            Checks.is("no fault of '" + text + "'", NONE, x.fault());
        } else {
            TextsTest.threadFault(text, kind, place);
        }
    }

    // "words (a .. z, the longest row), NUMBERS, signs ; ( ) + - * / < = ; blanks (32, 10)"; "or is none"
    private static void everyByteInALaw() {
        for (int b = 0; b < 256; b++) {
            String sign = String.valueOf((char) b);
            boolean joins = "+-*/<=".contains(sign);
            // behind a point
            int place = isBlank(b) || b == ';' ? 9 : 8;
            lawIs("splice 1" + sign + "2;", isDigit(b) || joins ? 0 : 1, place);
            // where a point must stand
            place = isBlank(b) || b == '(' ? 8 : 7;
            lawIs("splice " + sign + ";", isDigit(b) ? 0 : isLetter(b) ? 3 : 1, place);
            // where an expression within six others must stand
            boolean can = isDigit(b) || isLetter(b) || b == '(';
            lawIs("splice ((((((" + sign, can ? 2 : 1, isBlank(b) ? 14 : 13);
            // where a clause must stand
            lawIs("splice 1;" + sign, isBlank(b) ? 0 : 1, 9);
        }
    }

    private static void everyByteInAThread() {
        for (int b = 0; b < 256; b++) {
            String sign = String.valueOf((char) b);
            // a letter makes another word of it, which can't stand there
            int place = isLetter(b) ? 0 : b == ';' ? 7 : 6;
            threadIs("splice" + sign + ";", isBlank(b) ? 0 : 1, place);
            threadIs("splice;" + sign, isBlank(b) ? 0 : 1, 7);
            // where a number must stand: only a digit can, and 0 is too little
            int kind = b == '0' ? 2 : isDigit(b) ? 0 : 1;
            threadIs("run " + sign + ";", kind, isBlank(b) ? 5 : 4);
        }
    }

    // "1 a TOKEN that can't stand there"; "3 any word where a POINT must stand that is no VALUE"
    private static void everyWord() {
        for (String w : WORDS) {
            boolean isValue = Model.VALUES.contains(w);
            boolean isClause = w.equals("run") || w.equals("splice") || w.equals("plug") || w.equals("noise");
            boolean isPart = w.equals("run") || w.equals("plug") || w.equals("amp");
            boolean joins = w.equals("and") || w.equals("or");
            lawIs(w + " 1;", isClause ? 0 : 1, 0);
            lawIs("splice " + w + " 1;", w.equals("not") ? 0 : isValue ? 1 : 3, isValue ? 8 + w.length() : 7);
            lawIs("splice 1+" + w + ";", isValue ? 0 : 3, 9);
            lawIs("splice 1<" + w + ";", isValue ? 0 : 3, 9);
            lawIs("splice 1 " + w + " 2;", joins ? 0 : 1, 9);
            lawIs("splice 1 and " + w + ";", isValue ? 0 : w.equals("not") ? 1 : 3, w.equals("not") ? 16 : 13);
            lawIs("splice (((((" + w + ")))));", isValue ? 0 : w.equals("not") ? 1 : 3, w.equals("not") ? 15 : 12);
            lawIs("splice ((((((" + w + "))))));", 2, 13);
            // of a run, a plug and an amp the number is missing
            threadIs(w + ";", w.equals("splice") ? 0 : 1, isPart ? w.length() : 0);
            threadIs("run " + w + ";", 1, 4);
            threadIs("run 1 " + w + ";", 1, 6);
        }
    }

    // "NUMBERS (1 to 5 digits)"; "2 .. a NUMBER of 6 digits or more"
    private static void digits() {
        TextsTest.worth("0", 0);
        TextsTest.worth("9", 9);
        TextsTest.worth("0009", 9);
        TextsTest.worth("00009", 9);
        TextsTest.worth("99998", 99998);
        TextsTest.worth("99999", 99999);
        TextsTest.worth("99999=99998+1", 1);
        TextsTest.lawFault("splice 000009;", 2, 7);
        TextsTest.lawFault("splice 100000;", 2, 7);
        TextsTest.lawFault("splice 0000009;", 2, 7);
        TextsTest.lawFault("splice 4294967297;", 2, 7);
        threadIs("run 00001;", 0, 0);
        threadIs("run 000001;", 2, 4);
        threadIs("plug 00000;", 0, 0);
        threadIs("plug 000000;", 2, 5);
        threadIs("amp 00000 00000;", 0, 0);
        threadIs("amp 000000 0;", 2, 4);
        threadIs("amp 0 000000;", 2, 6);
        threadIs("splice 000000;", 1, 7);
    }

    // "A RUN is 1 to 9999 long, a PLUG throws back 0 to 99, an AMP gains up to 0 to 40000, to .. 0 to 30000"
    private static void numbersOfParts() {
        String[][] texts = {{"run ", ";"}, {"plug ", ";"}, {"amp ", " 5;"}, {"amp 5 ", ";"}};
        int[][] bounds = {{1, 9999}, {0, 99}, {0, 40000}, {0, 30000}};
        for (int i = 0; i < texts.length; i++) {
            int place = texts[i][0].length();
            for (int number = 0; number <= 1; number++) {
                boolean fine = number >= bounds[i][0];
                threadIs(texts[i][0] + number + texts[i][1], fine ? 0 : 2, place);
            }
            for (int number = bounds[i][1] - 1; number <= bounds[i][1] + 1; number++) {
                boolean fine = number <= bounds[i][1];
                threadIs(texts[i][0] + number + texts[i][1], fine ? 0 : 2, place);
            }
        }
        GlassThreads x = new GlassThreads();
        Checks.thread(x, "run 9999; plug 99; amp 40000 30000; run 1; plug 0; amp 0 0;", 0);
        int[] firsts = {9999, 99, 40000, 1, 0, 0};
        int[] seconds = {0, 0, 30000, 0, 0, 0};
        for (int part = 0; part < 6; part++) {
            Checks.is("first of part " + part, firsts[part], x.part(0, part, 1));
            Checks.is("second of part " + part, seconds[part], x.part(0, part, 2));
        }
    }

    // "At most 24 PARTS"; "the first TOKEN of the 25th PART"; "THREAD: PART PART*"
    private static void parts() {
        for (int many = 1; many <= 24; many++) {
            GlassThreads x = new GlassThreads();
            Checks.is(many + " parts", 0, Checks.thread(x, "run 1;".repeat(many), 0));
            Checks.is("it has them", many, x.part(0, NONE, 0));
            Checks.is("the last of them", 0, x.part(0, many - 1, 0));
            Checks.noSuch("no more", () -> x.part(0, x.part(0, NONE, 0), 0));
        }
        for (String w : WORDS) {
            boolean can = w.equals("run") || w.equals("splice") || w.equals("plug") || w.equals("amp");
            threadIs("run 1;".repeat(24) + w, can ? 2 : 1, 144);
            threadIs("run 1;".repeat(23) + "run 1 " + w, 1, 144);
        }
        threadIs("run 1;".repeat(24) + "1", 1, 144);
        threadIs("run 1;".repeat(25), 2, 144);
        threadIs("run 1;".repeat(24) + "run 0; x", 2, 144);
        threadIs("", 1, 0);
    }

    // "6 AMPS"; "the 'amp' of the 7th AMP"
    private static void amps() {
        for (int many = 5; many <= 6; many++) {
            threadIs("amp 0 0;".repeat(many), 0, 0);
        }
        threadIs("amp 0 0;".repeat(6) + "amp 0 0;", 2, 48);
        threadIs("amp 0 0;".repeat(6) + "amp 99999 0;", 2, 48);
        threadIs("amp 0 0;".repeat(6) + "splice; amp", 2, 56);
        threadIs("amp 0 0;".repeat(6) + "splice;".repeat(18), 0, 0);
        threadIs("amp 0 0;".repeat(6) + "splice;".repeat(18) + "amp", 2, 174);
        threadIs("splice;".repeat(18) + "amp 0 0;".repeat(6), 0, 0);
    }

    // "of the 17th CLAUSE"; "LAW: CLAUSE*"
    private static void clauses() {
        String[] kinds = {"run 1;", "splice 1;", "plug 1;", "noise 1;"};
        for (int many = 0; many <= 16; many++) {
            StringBuilder text = new StringBuilder();
            for (int i = 0; i < many; i++) {
                text.append(kinds[i % 4]);
            }
            lawIs(text.toString(), 0, 0);
            lawIs(text + "splice 1 1;", many == 16 ? 2 : 1, text.length() + (many == 16 ? 0 : 9));
        }
        for (String w : WORDS) {
            boolean can = w.equals("run") || w.equals("splice") || w.equals("plug") || w.equals("noise");
            lawIs("plug 2;".repeat(16) + w, can ? 2 : 1, 112);
            lawIs("plug 2;".repeat(15) + "plug 2 0 " + w, 1, 112);
        }
        lawIs("plug 2;".repeat(16) + ";", 1, 112);
    }

    // "the first TOKEN of an EXPR within 6 others (a NUMBER, any word, a parenthesis)"
    private static void expressionsWithinOthers() {
        for (int deep = 0; deep <= 9; deep++) {
            lawIs("run " + "(".repeat(deep) + "7" + ")".repeat(deep) + ";", deep < 6 ? 0 : 2, 10);
            lawIs("run " + "(".repeat(deep) + "123456" + ")".repeat(deep) + ";", 2, 4 + Math.min(deep, 6));
            lawIs("run " + "(".repeat(deep) + "x" + ")".repeat(deep) + ";", deep < 6 ? 3 : 2, 4 + Math.min(deep, 6));
            lawIs("run " + "(".repeat(deep) + ")", deep == 7 || deep > 7 ? 2 : 1, 4 + Math.min(deep, 6));
        }
        // those that are behind one another are not within one another
        lawIs("run " + "(((((7)))))+".repeat(8) + "1;", 0, 0);
        lawIs("run not (not (not (not (not (7)))));", 0, 0);
        lawIs("run not (not (not (not (not (not (7))))));", 2, 34);
        lawIs("run 1+(1+(1+(1+(1+(1+(1))))));", 2, 22);
        lawIs("run (((((1+1)+1)+1)+1)+1)+(((((1+1)+1)+1)+1)+1);", 0, 0);
        lawIs("run 1;run ((((((1))))));", 2, 16);
    }

    // "the seventh 'not' side by side"
    private static void notsSideBySide() {
        for (int many = 0; many <= 9; many++) {
            lawIs("run " + "not ".repeat(many) + "7;", many < 7 ? 0 : 2, 28);
            if (many < 7) {
                TextsTest.worth("not ".repeat(many) + "7", many == 0 ? 7 : 1 - many % 2);
                TextsTest.worth("not ".repeat(many) + "0", many % 2);
            }
        }
        lawIs("run not not not not not not;", 1, 27);
        lawIs("run not not not not not not x;", 3, 28);
        lawIs("run not not not not not not not", 2, 28);
        lawIs("run not not not not not not (not not not not not not 1);", 0, 0);
        lawIs("run not not not not not not 1 or not not not not not not not 1;", 2, 57);
        lawIs("run (not not not not not not not 1);", 2, 29);
    }

    // "(the text's length where it ends too soon)"
    private static void textsThatEndTooSoon() {
        String thread = "run 5; plug 7; amp 1 2; splice;";
        for (int n = 0; n < thread.length(); n++) {
            GlassThreads x = new GlassThreads();
            Checks.feed(x, thread);
            String text = thread.substring(0, n);
            boolean whole = text.trim().endsWith(";");
            boolean word = text.matches("(.*; *)?(r|ru|p|pl|plu|a|am|s|sp|spl|spli|splic)");
            Checks.is("first " + n + " bytes", whole ? 0 : -2, x.thread(n, 0));
            int begin = text.lastIndexOf(' ') + 1;
            Checks.is("place in the first " + n, whole ? NONE : word ? begin : n, x.fault());
        }
        String law = "run (1+2)<3 and not 4;";
        // where the text ends within a word, the row that is left is another word: 'a', 'an', 'n', 'no'
        int[] kinds = {0, 1, 1, 1, 1, 1, 1, 1, 1, 1, 1, 1, 1, 1, 1, 1, 1, 3, 3, 1, 1, 1};
        int[] places = {NONE, 0, 0, 3, 4, 5, 6, 7, 8, 9, 10, 11, 12, 12, 12, 15, 16, 16, 16, 19, 20, 21};
        for (int n = 0; n < law.length(); n++) {
            GlassThreads x = new GlassThreads();
            Checks.feed(x, law);
            Checks.is("first " + n + " bytes of a law", kinds[n], x.law(n));
            Checks.is("place in the first " + n + " of a law", places[n], x.fault());
        }
    }

    private static final String MOST = "(99999*21474+99999+5122)";

    // "ints that wrap"
    private static void wrappingNumbers() {
        TextsTest.worth(MOST, 99999);
        TextsTest.worth(MOST + "<0", 0);
        TextsTest.worth(MOST + "+1<0", 1);
        TextsTest.worth(MOST + "+1", 0);
        TextsTest.worth(MOST + "+1=0-" + MOST + "-1", 1);
        TextsTest.worth("0-" + MOST + "-1<0", 1);
        TextsTest.worth("0-" + MOST + "-2=" + MOST, 1);
        TextsTest.worth("(0-" + MOST + "-1)/(0-1)<0", 1);
        TextsTest.worth(MOST + "*2", 0);
        TextsTest.worth(MOST + "*2+7", 5);
        TextsTest.worth("65536*65535<0", 1);
        TextsTest.worth("65536*65536+3", 3);
        TextsTest.worth("46341*46341<0", 1);
        TextsTest.worth("46340*46340<0", 0);
    }

    // "/ cut down to 0, by 0 gives 0"
    private static void cutDownTo0() {
        TextsTest.worth("6/3", 2);
        TextsTest.worth("5/3", 1);
        TextsTest.worth("3/3", 1);
        TextsTest.worth("2/3", 0);
        TextsTest.worth("9+(0-2)/3", 9);
        TextsTest.worth("9+(0-3)/3", 8);
        TextsTest.worth("9+(0-5)/3", 8);
        TextsTest.worth("9+5/(0-3)", 8);
        TextsTest.worth("9+(0-5)/(0-3)", 10);
        TextsTest.worth("9+5/0", 9);
        TextsTest.worth("9+(0-5)/0", 9);
        TextsTest.worth("9+0/0", 9);
        TextsTest.worth("9+5/1", 14);
        TextsTest.worth("9+5/(0-1)", 4);
    }

    // "tests .. are 1 or 0"
    private static void tests() {
        for (int a = 4; a <= 6; a++) {
            TextsTest.worth(a + "<5", a < 5 ? 1 : 0);
            TextsTest.worth(a + "=5", a == 5 ? 1 : 0);
            TextsTest.worth("0-" + a + "<0-5", a > 5 ? 1 : 0);
            TextsTest.worth("0-" + a + "=0-5", a == 5 ? 1 : 0);
            TextsTest.worth("7+(" + a + "<5)", a < 5 ? 8 : 7);
            TextsTest.worth("7+(" + a + "=5)", a == 5 ? 8 : 7);
        }
    }

    // "not, and, or are 1 or 0 (what isn't 0 holds)"
    private static void whatHolds() {
        String[] some = {"(0-2)", "(0-1)", "0", "1", "2"};
        for (String a : some) {
            boolean holdsA = !a.equals("0");
            TextsTest.worth("7+(not " + a + ")", holdsA ? 7 : 8);
            for (String b : some) {
                boolean holdsB = !b.equals("0");
                TextsTest.worth("7+(" + a + " and " + b + ")", holdsA && holdsB ? 8 : 7);
                TextsTest.worth("7+(" + a + " or " + b + ")", holdsA || holdsB ? 8 : 7);
            }
        }
    }

    // "of like CLAUSES the last counts"
    private static void likeClauses() {
        GlassThreads x = new GlassThreads();
        Checks.thread(x, "run 5; splice; plug 6; amp 7 8;", 0);
        Checks.law(x, "noise 1; run 2; noise 3; plug 4; run 5; plug 6; run 7; splice 8; splice 9;");
        int[] due = {7, 9, 6, 3};
        for (int part = 0; part < 4; part++) {
            Checks.is("the last clause of part " + part, due[part], x.loss(0, part, 0, 0));
        }
    }

    // "0 to 99999 (what is below, above is taken for these)"; "0 to 99999 likewise"
    private static void lossBounds() {
        GlassThreads x = new GlassThreads();
        Checks.thread(x, "run 5; splice; plug 6; amp 7 8;", 0);
        String[] worths = {"0-2", "0-1", "0", "1", "99998", "99999", "99999+1", MOST, "0-" + MOST};
        int[] due = {0, 0, 0, 1, 99998, 99999, 99999, 99999, 0};
        for (int i = 0; i < worths.length; i++) {
            String w = " " + worths[i] + ";";
            Checks.is("law", 0, Checks.law(x, "run" + w + "splice" + w + "plug" + w + "noise" + w));
            for (int part = 0; part < 4; part++) {
                Checks.is("loss of part " + part + " by" + w, due[i], x.loss(0, part, 0, 0));
            }
        }
    }

    // "(2 times its length without one), .. (50), .. (300)"; "(200 without)"
    private static void usualLosses() {
        GlassThreads x = new GlassThreads();
        Checks.thread(x, "run 1; run 9999; splice; plug 0; plug 99; amp 0 0; amp 40000 30000;", 0);
        int[] due = {2, 19998, 50, 300, 300, 200, 200};
        for (int part = 0; part < due.length; part++) {
            Checks.is("usual loss of part " + part, due[part], x.loss(0, part, 7, 99));
        }
    }

    // "THREADS, from 0 on, at most 8, each laid in a YEAR (0 to 99)"; "-9: .. ahead of a FAULT; the tape is empty"
    private static void threadsAndYears() {
        GlassThreads x = new GlassThreads();
        int[] bad = {-1, 100, Integer.MIN_VALUE, Integer.MAX_VALUE};
        for (int year : bad) {
            Checks.is("a fault", -2, Checks.thread(x, "run", 0));
            Checks.is("year " + year, -9, Checks.thread(x, "run 1;", year));
            Checks.is("no fault then", NONE, x.fault());
            Checks.is("empty tape", 0, x.count(7));
            Checks.is("ahead of a fault", -9, Checks.thread(x, "run", year));
            Checks.is("still no fault", NONE, x.fault());
        }
        Checks.is("no thread", 0, x.count(1));
        int[] years = {0, 1, 98, 99, 0, 0, 0, 0};
        for (int i = 0; i < 8; i++) {
            Checks.is("thread " + i, i, Checks.thread(x, "run 1;", years[i]));
            Checks.is("how many", i + 1, x.count(1));
        }
        Checks.is("a ninth one", -9, Checks.thread(x, "run 1;", 0));
        Checks.is("a ninth one's fault", -9, Checks.thread(x, "run", 0));
        Checks.is("no fault then", NONE, x.fault());
        Checks.is("the tape is empty", 0, x.count(7));
        Checks.is("eight", 8, x.count(1));
        Checks.law(x, "run 1000+age;");
        Checks.is("as old as can be", 999 - 999 - 1000 - 99, x.level(0, 0, 0, 0, false, 36499, 0));
        Checks.is("as new as can be", -1000, x.level(3, 0, 0, 0, false, 36499, 0));
    }

    // "The place of the latest thread()'s or law()'s FAULT; NONE without."
    private static void latestFault() {
        GlassThreads x = new GlassThreads();
        Checks.is("at first", NONE, x.fault());
        Checks.law(x, "splice x;");
        Checks.is("of a law", 7, x.fault());
        Checks.law(x, "splice 7;");
        Checks.is("none of a law behind it", NONE, x.fault());
        Checks.thread(x, "splice", 0);
        Checks.is("of a thread", 6, x.fault());
        Checks.thread(x, "splice;", 0);
        Checks.is("none of a thread behind it", NONE, x.fault());
        Checks.thread(x, "run", 0);
        Checks.law(x, "");
        Checks.is("none of a law behind a thread", NONE, x.fault());
        Checks.law(x, "run");
        Checks.thread(x, "splice;", 0);
        Checks.is("none of a thread behind a law", NONE, x.fault());
        Checks.law(x, "splice;");
        Checks.law(x, "not 7;");
        Checks.is("the latest", 0, x.fault());
    }

    // "The tape's first n bytes are the LAW: 0, or the FAULT (the one ahead stays)"
    private static void lawsInARow() {
        GlassThreads x = new GlassThreads();
        Checks.thread(x, "run 5; splice; plug 6; amp 7 8;", 0);
        String[] laws = {"run 1;", "splice 2;", "plug 3;", "noise 4;", "plug 5; splice", "noise 6; run 7;",
            "run 8; x", "splice 9; splice ((((((1))))));", "", "run 11;"};
        int[][] due = {{1, 50, 300, 200}, {10, 2, 300, 200}, {10, 50, 3, 200}, {10, 50, 300, 4}, {10, 50, 300, 4},
            {7, 50, 300, 6}, {7, 50, 300, 6}, {7, 50, 300, 6}, {10, 50, 300, 200}, {11, 50, 300, 200}};
        for (int i = 0; i < laws.length; i++) {
            Checks.law(x, laws[i]);
            for (int part = 0; part < 4; part++) {
                Checks.is("loss of part " + part + " behind '" + laws[i] + "'", due[i][part], x.loss(0, part, 0, 0));
            }
        }
    }

    // "The tape's first n bytes (it is empty then)"
    private static void refusedLaws() {
        GlassThreads x = new GlassThreads();
        Checks.feed(x, "splice x; splice 7; ");
        Checks.is("a fault", 3, x.law(20));
        Checks.is("the tape is empty all the same", 0, x.count(7));
        Checks.feed(x, "splice 7; splice x; ");
        Checks.is("a fault behind n counts for nothing", 0, x.law(9));
        Checks.is("what is behind n is gone", 0, x.count(7));
        Checks.feed(x, "splice; x           ");
        Checks.is("a thread's, too", 0, x.thread(7, 0));
        Checks.is("what is behind it is gone, too", 0, x.count(7));
        Checks.is("by the law", 7, x.loss(0, 0, 0, 0));
    }

    /** The deepest text there is: five joinings wait in each of six expressions. */
    private static void numbersAtOnce() {
        String outer = "0 or 1 and 2=1+1*(";
        TextsTest.worth(outer.repeat(5) + "0 or 1 and 2=1+1*1" + ")".repeat(5), 1);
        TextsTest.worth(outer.repeat(5) + "0 or 1 and 2=1+1*0" + ")".repeat(5), 0);
        TextsTest.worth("not not not not not not " + outer.repeat(5) + "not 0 or 1 and 2=1+1*nth" + ")".repeat(5), 1);
        TextsTest.lawFault("run " + outer.repeat(6), 1, 4 + 18 * 6);
        TextsTest.lawFault("run " + outer.repeat(6) + "0", 2, 4 + 18 * 6);
    }

    // "nth: how many PARTS of its kind stand ahead of it in the text, and 1"
    private static void nthOfItsKind() {
        GlassThreads x = new GlassThreads();
        Checks.thread(x, "splice;".repeat(24), 0);
        Checks.thread(x, "run 1;plug 0;amp 0 0;splice;".repeat(6), 0);
        Checks.law(x, "run nth; splice nth; plug nth; noise nth;");
        for (int part = 0; part < 24; part++) {
            Checks.is("nth of 24 alike", part + 1, x.loss(0, part, 0, 0));
            Checks.is("nth of six of each kind", part / 4 + 1, x.loss(1, part, 0, 0));
        }
    }

    // "part NONE: how many PARTS (what 0)"; "no such THREAD, PART (as everywhere), what"
    private static void partNumbers() {
        GlassThreads x = new GlassThreads();
        Checks.noSuch("no thread at all", () -> x.part(0, NONE, 0));
        Checks.thread(x, "run 1; splice;", 0);
        Checks.thread(x, "plug 5;", 0);
        Checks.is("two", 2, x.part(0, NONE, 0));
        Checks.is("one", 1, x.part(1, NONE, 0));
        Checks.is("the last part", 1, x.part(0, 1, 0));
        Checks.noSuch("part 2", () -> x.part(0, 2, 0));
        Checks.noSuch("part 1 of the other", () -> x.part(1, 1, 0));
        Checks.noSuch("part -2", () -> x.part(0, -2, 0));
        Checks.noSuch("thread 2", () -> x.part(2, 0, 0));
        Checks.noSuch("thread -1", () -> x.part(-1, 0, 0));
        int[] bad = {-2, -1, 3, Integer.MAX_VALUE, Integer.MIN_VALUE};
        for (int what : bad) {
            Checks.noSuch("what " + what, () -> x.part(0, 0, what));
            Checks.noSuch("what " + what + " of how many", () -> x.part(0, NONE, what));
        }
        for (int what = 1; what <= 2; what++) {
            int number = what;
            Checks.noSuch("what " + what + " of how many", () -> x.part(0, NONE, number));
        }
    }

    // "NoSuchElementException: also no such colour (as everywhere). IllegalArgumentException: age is not 0 to 99."
    private static void coloursAndAges() {
        GlassThreads x = new GlassThreads();
        Checks.thread(x, "splice;", 0);
        Checks.law(x, "splice colour*1000+age;");
        Checks.is("colour 0, age 0", 0, x.loss(0, 0, 0, 0));
        Checks.is("colour 7, age 99", 7099, x.loss(0, 0, 7, 99));
        Checks.is("colour 6, age 98", 6098, x.loss(0, 0, 6, 98));
        int[] colours = {-1, 8, Integer.MAX_VALUE, Integer.MIN_VALUE};
        for (int colour : colours) {
            Checks.noSuch("colour " + colour, () -> x.loss(0, 0, colour, 0));
            Checks.noSuch("colour " + colour + " ahead of its age", () -> x.loss(0, 0, colour, 100));
        }
        int[] ages = {-1, 100, Integer.MAX_VALUE, Integer.MIN_VALUE};
        for (int age : ages) {
            Checks.illegal("age " + age, () -> x.loss(0, 0, 7, age));
            Checks.noSuch("part 1 ahead of age " + age, () -> x.loss(0, 1, 0, age));
            Checks.noSuch("thread 1 ahead of age " + age, () -> x.loss(1, 0, 0, age));
        }
    }

    // "An object is used for at most 512 calls"
    private static void longLife() {
        GlassThreads x = new GlassThreads();
        Checks.thread(x, "splice;", 0);
        // 2 calls so far; 21 for each law of 400 bytes and 2 more for its loss and its fault
        String sum = "+1".repeat(195);
        for (int i = 0; i < 22; i++) {
            Checks.is("law " + i, 0, Checks.law(x, "splice " + (10 + i % 2) + sum + ";"));
            Checks.is("loss by law " + i, 205 + i % 2, x.loss(0, 0, 0, 0));
            Checks.is("fault of law " + i, NONE, x.fault());
        }
        for (int i = 0; i < 510 - 22 * 23 - 1; i++) {
            Checks.is("calls go by", 0, x.evenings(0));
        }
        Checks.is("the 512th", 206, x.loss(0, 0, 0, 0));
    }
}
