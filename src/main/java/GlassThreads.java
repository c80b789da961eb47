import java.util.Arrays;
import java.util.NoSuchElementException;

/**
 * Light in glass threads: what is left of it along a thread, what its echoes tell, where to dig,
 * how lamps are set, and what a net of cables carries and loses. DOC.md tells each promise; words
 * in capitals there are the names here.
 */
public final class GlassThreads {
    public static final int NONE = -1;

    private static final int RUN = 0;
    private static final int SPLICE = 1;
    private static final int PLUG = 2;
    private static final int AMP = 3;

    private static final int BENT = 0;
    private static final int CUT = 1;
    private static final int OFF = 2;
    private static final int MENDED = 3;

    private static final int MOST_BYTES = 400;
    private static final int FED_BYTES = 20;
    private static final int MOST_THREADS = 8;
    private static final int MOST_PARTS = 24;
    private static final int MOST_SHEETS = 8;
    private static final int COLOURS = 8;
    private static final int NODES = 8;

    private static final int LAST_YEAR = 99;
    private static final int LAST_DAY = 36499;
    private static final int DAYS_A_YEAR = 365;
    private static final int LAST_EVENING = 999;

    private static final int LEAST_LEVEL = -60000;
    private static final int MOST_LEVEL = 30000;
    private static final int MOST_BASE = 20000;
    private static final int MOST_BEND = 20000;
    private static final int MOST_DEAD = 99;
    private static final int MOST_DISTANCE = 99999;
    private static final int MOST_SLACK = 500;

    private static final int NO_LEVEL = -100000;
    private static final int NO_MARGIN = -1000000;
    private static final int NO_THREAD = -9;
    private static final int WRONG_SIZE = -2;

    private static final int IS_MISSING = 1;
    private static final int OTHER_SORT = 2;
    private static final int NO_PLACE = 3;
    private static final int OUT_OF_BOUNDS = 4;

    private final Tape tape = new Tape();
    private final Strand[] strands = new Strand[MOST_THREADS];
    private int strandCount = 0;
    private Law ruling = new Law();
    private Law spare = new Law();
    private int faultPlace = NONE;
    private int tonight = 0;
    private final Diary diary = new Diary();
    private final Scene scene = new Scene();
    private int deadZone = 5;
    private final Row row = new Row();
    private final Inquiry inquiry = new Inquiry();
    private final Lamps lampBoard = new Lamps();
    private final Net net = new Net();
    private final Sheet[] sheets = new Sheet[MOST_SHEETS];
    private int sheetCount = 0;

    public GlassThreads() {
        for (int i = 0; i < MOST_THREADS; i++) {
            strands[i] = new Strand();
        }
        for (int i = 0; i < MOST_SHEETS; i++) {
            sheets[i] = new Sheet();
        }
    }

    // ---- texts, threads, laws ----

    public int feed(int a, int b, int c, int d, int e) {
        if (tape.held > MOST_BYTES - FED_BYTES) {
            return NONE;
        }
        tape.append(a);
        tape.append(b);
        tape.append(c);
        tape.append(d);
        tape.append(e);
        return tape.held;
    }

    public int thread(int n, int year) throws IllegalArgumentException {
        needBytes(n);
        tape.open(n);
        faultPlace = NONE;
        if (strandCount >= MOST_THREADS || year < 0 || year > LAST_YEAR) {
            return NO_THREAD;
        }
        Strand strand = strands[strandCount];
        if (!strand.readFrom(tape)) {
            faultPlace = tape.faultPlace;
            return -1 - tape.faultKind;
        }
        strand.year = year;
        strandCount++;
        return strandCount - 1;
    }

    public int law(int n) throws IllegalArgumentException {
        needBytes(n);
        tape.open(n);
        faultPlace = NONE;
        if (!spare.readFrom(tape)) {
            faultPlace = tape.faultPlace;
            return tape.faultKind;
        }
        Law former = ruling;
        ruling = spare;
        spare = former;
        return 0;
    }

    public int fault() {
        return faultPlace;
    }

    public int part(int thread, int part, int what) throws NoSuchElementException {
        Strand strand = strandOf(thread);
        if (part == NONE && what == 0) {
            return strand.parts;
        }
        needPart(strand, part);
        switch (what) {
            case 0:
                return strand.kinds[part];
            case 1:
                return strand.firsts[part];
            case 2:
                return strand.seconds[part];
            default:
                throw new NoSuchElementException("no such number of a part");
        }
    }

    public int loss(int thread, int part, int colour, int age) throws NoSuchElementException, IllegalArgumentException {
        Strand strand = strandOf(thread);
        needPart(strand, part);
        needColour(colour);
        if (age < 0 || age > LAST_YEAR) {
            throw new IllegalArgumentException("an age is 0 to 99");
        }
        return ruling.lossOf(strand, part, colour, age);
    }

    // ---- evenings, events, levels ----

    public int evenings(int n) throws IllegalArgumentException {
        if (n < 0 || n > LAST_EVENING - tonight) {
            throw new IllegalArgumentException("evenings are 0 to 999");
        }
        tonight += n;
        return tonight;
    }

    public int event(int kind, int thread, int part, int number, int day) throws NoSuchElementException {
        if (kind < BENT || kind > MENDED) {
            throw new NoSuchElementException("no such kind of event");
        }
        Strand strand = strandOf(thread);
        needPart(strand, part);
        if (!isDay(day) || !strand.canHappen(kind, part, number)) {
            return NONE;
        }
        return diary.tell(kind, thread, part, number, day, tonight);
    }

    public boolean back(int event) throws NoSuchElementException {
        if (event < 0 || event >= diary.size) {
            throw new NoSuchElementException("no such event");
        }
        return diary.takeBack(event, tonight);
    }

    public int level(int thread, int part, int colour, int sent, boolean end, int day, int k)
            throws NoSuchElementException, IllegalArgumentException {
        Strand strand = strandOf(thread);
        needPart(strand, part);
        needColour(colour);
        needDay(day);
        needLevel(sent);
        needEvening(k);
        showDay(thread, day, k);
        scene.weigh(ruling, colour, ageOn(day, strand));
        return scene.levelBehind(part, sent, end);
    }

    public int margin(int thread, int colour, int sent, int need, int day, int k)
            throws NoSuchElementException, IllegalArgumentException {
        Strand strand = strandOf(thread);
        needColour(colour);
        needDay(day);
        needLevel(sent);
        needLevel(need);
        needEvening(k);
        showDay(thread, day, k);
        scene.weigh(ruling, colour, ageOn(day, strand));
        return scene.marginOf(sent, need);
    }

    public int tired(int thread, int colour, int sent, int need) throws NoSuchElementException, IllegalArgumentException {
        Strand strand = strandOf(thread);
        needColour(colour);
        needLevel(sent);
        needLevel(need);
        scene.show(strand);
        for (int year = strand.year; year <= LAST_YEAR; year++) {
            scene.weigh(ruling, colour, year - strand.year);
            if (scene.marginOf(sent, need) < 0) {
                return year;
            }
        }
        return NONE;
    }

    // ---- echoes ----

    public int dead(int feet) throws IllegalArgumentException {
        if (feet < 0 || feet > MOST_DEAD) {
            throw new IllegalArgumentException("DEAD is 0 to 99");
        }
        int former = deadZone;
        deadZone = feet;
        return former;
    }

    public int echo(int thread, int colour, boolean end, int day, int k)
            throws NoSuchElementException, IllegalArgumentException {
        Strand strand = strandOf(thread);
        needColour(colour);
        needDay(day);
        needEvening(k);
        showDay(thread, day, k);
        scene.weigh(ruling, colour, ageOn(day, strand));
        row.observe(scene, end, deadZone);
        return row.size;
    }

    public int echoed(int i, int what) throws NoSuchElementException {
        if (i < 0 || i >= row.size) {
            throw new NoSuchElementException("no such echo");
        }
        switch (what) {
            case 0:
                return row.distances[i];
            case 1:
                return row.sizes[i];
            case 2:
                return row.kinds[i];
            default:
                throw new NoSuchElementException("no such number of an echo");
        }
    }

    public void look(int thread) throws NoSuchElementException {
        inquiry.beginWith(strandOf(thread));
    }

    public int suspect(int part, int size) throws NoSuchElementException {
        needLook();
        needPart(inquiry.strand, part);
        if (inquiry.strand.kinds[part] != RUN || size < 1 || size > MOST_BEND) {
            return NONE;
        }
        return inquiry.accuse(part, size);
    }

    public boolean seen(boolean end) throws NoSuchElementException {
        needLook();
        if (row.size == NONE) {
            return false;
        }
        inquiry.toldRow(end).takeOver(row);
        return true;
    }

    public int readBack(int colour) throws NoSuchElementException {
        needLook();
        needColour(colour);
        scene.show(inquiry.strand);
        scene.weigh(ruling, colour, 0);
        return inquiry.search(scene, deadZone);
    }

    public int found(int what) throws NoSuchElementException {
        if (inquiry.sets == NONE) {
            throw new NoSuchElementException("nothing was read back yet");
        }
        switch (what) {
            case 0:
                return inquiry.firstSet;
            case 1:
                return inquiry.inAll;
            case 2:
                return inquiry.inSome & ~inquiry.inAll;
            default:
                throw new NoSuchElementException("no such number of what was found");
        }
    }

    // ---- dig ----

    public int dig(int d, int low, int high, int what) throws IllegalArgumentException, NoSuchElementException {
        needDistance(d);
        needSlack(low, high);
        needSide(what);
        return what == 0 ? groundBegin(d, high) : groundEnd(d, low);
    }

    public int both(int d, int e, int g, int low, int high, int what)
            throws IllegalArgumentException, NoSuchElementException {
        needDistance(d);
        needDistance(e);
        needDistance(g);
        needSlack(low, high);
        needSide(what);
        int begin = Math.max(groundBegin(d, high), g - groundEnd(e, low));
        int end = Math.min(groundEnd(d, low), g - groundBegin(e, high));
        if (begin > end) {
            return NONE;
        }
        return what == 0 ? begin : end;
    }

    // ---- lamps ----

    public int lamps(int thread, int n, int base, int a, int b, int c, int d, int day)
            throws NoSuchElementException, IllegalArgumentException {
        Strand strand = strandOf(thread);
        needDay(day);
        if (n < 1 || n > Lamps.MOST || base < LEAST_LEVEL || base > MOST_BASE) {
            throw new IllegalArgumentException("lamps are 1 to 4, their base -60000 to 20000");
        }
        needLevel(a);
        needLevel(b);
        needLevel(c);
        needLevel(d);
        showDay(thread, day, tonight);
        if (!scene.isWhole()) {
            return NO_MARGIN;
        }
        lampBoard.setNeeds(a, b, c, d);
        for (int colour = 0; colour < n; colour++) {
            scene.weigh(ruling, colour, ageOn(day, strand));
            lampBoard.measure(scene, colour, base);
        }
        return lampBoard.choose(n);
    }

    public int steps(int colour) throws NoSuchElementException {
        needColour(colour);
        return colour < lampBoard.size ? lampBoard.chosen[colour] : NONE;
    }

    // ---- the net ----

    public int cable(int a, int b, int thread, int colours) throws NoSuchElementException {
        needNode(a);
        needNode(b);
        strandOf(thread);
        if (a == b || colours < 1 || colours > COLOURS) {
            return NONE;
        }
        return net.addCable(a, b, thread, colours);
    }

    public int task(int a, int b) throws NoSuchElementException {
        needNode(a);
        needNode(b);
        return a == b ? NONE : net.addTask(a, b);
    }

    public int way(int a, int b) throws NoSuchElementException {
        needNode(a);
        needNode(b);
        net.weigh(strands, ruling);
        return net.keepLeast(a, b);
    }

    public int pair(int a, int b) throws NoSuchElementException {
        needNode(a);
        needNode(b);
        if (a == b) {
            return NONE;
        }
        net.weigh(strands, ruling);
        return net.keepPair(a, b);
    }

    public int along(int i) throws NoSuchElementException {
        int first = net.keptFirst.size;
        int all = first + net.keptOther.size;
        if (i == NONE) {
            return all;
        }
        if (i < 0 || i >= all) {
            throw new NoSuchElementException("no such cable of what is kept");
        }
        return i < first ? net.keptFirst.cables[i] : net.keptOther.cables[i - first];
    }

    public int deal() {
        net.weigh(strands, ruling);
        return net.dealColours();
    }

    public int dealt(int task) throws NoSuchElementException {
        if (task < 0 || task >= net.tasks) {
            throw new NoSuchElementException("no such task");
        }
        return task < net.dealtSize ? net.dealtColours[task] : NONE;
    }

    public int lost(int cables) {
        return net.lostBy(cables);
    }

    public int worst(int many) throws IllegalArgumentException {
        if (many != 1 && many != 2) {
            throw new IllegalArgumentException("one cable or two are cut");
        }
        return net.worstOf(many);
    }

    // ---- sheets ----

    public int sheet(int sort, int size) {
        if (sheetCount >= MOST_SHEETS || sort < Sheet.BYTES || sort > Sheet.INTS) {
            return NONE;
        }
        if (size < NONE || size > Sheet.MOST_PLACES) {
            return WRONG_SIZE;
        }
        sheets[sheetCount].sort = sort;
        sheets[sheetCount].size = size;
        sheetCount++;
        return sheetCount - 1;
    }

    public int write(int sheet, int at, int v) throws NoSuchElementException {
        Sheet page = sheetOf(sheet);
        if (page.size == NONE) {
            return IS_MISSING;
        }
        if (at < 0 || at >= page.size) {
            return NO_PLACE;
        }
        if (!page.canHold(v)) {
            return OUT_OF_BOUNDS;
        }
        page.places[at] = v;
        return 0;
    }

    public int copy(int from, int at, int to, int on, int n) throws NoSuchElementException {
        Sheet source = sheetOf(from);
        Sheet target = sheetOf(to);
        if (source.size == NONE || target.size == NONE) {
            return IS_MISSING;
        }
        if (source.sort != target.sort) {
            return OTHER_SORT;
        }
        if (!source.hasPart(at, n) || !target.hasPart(on, n)) {
            return NO_PLACE;
        }
        System.arraycopy(source.places, at, target.places, on, n);
        return 0;
    }

    public int rowOf(int sheet, int at, int n) throws NoSuchElementException, IllegalArgumentException {
        Sheet page = sheetOf(sheet);
        if (n < 0 || n > Sheet.MOST_PLACES / Sheet.PLACES_AN_ECHO) {
            throw new IllegalArgumentException("echoes of a sheet are 0 to 8");
        }
        if (page.size == NONE) {
            return IS_MISSING;
        }
        if (!page.hasPart(at, n * Sheet.PLACES_AN_ECHO)) {
            return NO_PLACE;
        }
        if (!page.tellsRow(at, n)) {
            return OUT_OF_BOUNDS;
        }
        row.readFrom(page, at, n);
        return 0;
    }

    public int count(int what) throws NoSuchElementException {
        switch (what) {
            case 0:
                return tonight;
            case 1:
                return strandCount;
            case 2:
                return diary.size;
            case 3:
                return net.cables;
            case 4:
                return net.tasks;
            case 5:
                return sheetCount;
            case 6:
                return inquiry.suspects;
            case 7:
                return tape.held;
            default:
                throw new NoSuchElementException("no such count");
        }
    }

    // ---- what every call looks at first ----

    private Strand strandOf(int thread) {
        if (thread < 0 || thread >= strandCount) {
            throw new NoSuchElementException("no such thread");
        }
        return strands[thread];
    }

    private Sheet sheetOf(int sheet) {
        if (sheet < 0 || sheet >= sheetCount) {
            throw new NoSuchElementException("no such sheet");
        }
        return sheets[sheet];
    }

    private void needBytes(int n) {
        if (n < 0 || n > tape.held) {
            throw new IllegalArgumentException("the tape has not so many bytes");
        }
    }

    private void needEvening(int k) {
        if (k < 0 || k > tonight) {
            throw new IllegalArgumentException("no such evening");
        }
    }

    private void needLook() {
        if (inquiry.strand == null) {
            throw new NoSuchElementException("no look yet");
        }
    }

    private static void needPart(Strand strand, int part) {
        if (part < 0 || part >= strand.parts) {
            throw new NoSuchElementException("no such part");
        }
    }

    private static void needColour(int colour) {
        if (colour < 0 || colour >= COLOURS) {
            throw new NoSuchElementException("no such colour");
        }
    }

    private static void needDay(int day) {
        if (!isDay(day)) {
            throw new NoSuchElementException("no such day");
        }
    }

    private static void needNode(int node) {
        if (node < 0 || node >= NODES) {
            throw new NoSuchElementException("no such node");
        }
    }

    private static void needSide(int what) {
        if (what != 0 && what != 1) {
            throw new NoSuchElementException("a span has a beginning and an end");
        }
    }

    private static void needLevel(int level) {
        if (level < LEAST_LEVEL || level > MOST_LEVEL) {
            throw new IllegalArgumentException("a level is -60000 to 30000");
        }
    }

    private static void needDistance(int distance) {
        if (distance < 0 || distance > MOST_DISTANCE) {
            throw new IllegalArgumentException("a distance is 0 to 99999");
        }
    }

    private static void needSlack(int low, int high) {
        if (low < 0 || high > MOST_SLACK || low > high) {
            throw new IllegalArgumentException("slack goes from 0 to 500");
        }
    }

    private static boolean isDay(int day) {
        return day >= 0 && day <= LAST_DAY;
    }

    private static int ageOn(int day, Strand strand) {
        return Math.max(0, day / DAYS_A_YEAR - strand.year);
    }

    private void showDay(int thread, int day, int evening) {
        scene.show(strandOf(thread));
        diary.playInto(scene, thread, day, evening);
    }

    private static int groundBegin(int distance, int high) {
        return distance * 1000 / (1000 + high);
    }

    private static int groundEnd(int distance, int low) {
        int glass = 1000 + low;
        return (distance * 1000 + glass - 1) / glass;
    }

    /** The bytes that were fed, and the tokens of the text at their beginning, one at a time. */
    private static final class Tape {
        private static final int END = 0;
        private static final int BAD = 1;
        private static final int NUMBER = 2;
        private static final int OTHER_WORD = 3;
        // a sign's token is its own byte; known words lie above all bytes, by kinds of parts first
        private static final int FIRST_WORD = 256;
        private static final int RUN_WORD = 256;
        private static final int SPLICE_WORD = 257;
        private static final int PLUG_WORD = 258;
        private static final int AMP_WORD = 259;
        private static final int NOISE_WORD = 260;
        private static final int OR_WORD = 261;
        private static final int AND_WORD = 262;
        private static final int NOT_WORD = 263;
        private static final int COLOUR_WORD = 264;
        private static final int AGE_WORD = 265;
        private static final int LENGTH_WORD = 266;
        private static final int SIZE_WORD = 267;
        private static final int NTH_WORD = 268;

        private static final int CANNOT_STAND = 1;
        private static final int TOO_MUCH = 2;
        private static final int NO_VALUE = 3;

        private static final int MOST_DIGITS = 5;
        private static final int MOST_NUMBER = 99999;

        private final byte[] bytes = new byte[MOST_BYTES];
        private int held = 0;
        // the tokens of the text that was opened last, with END behind them
        private final int[] tokens = new int[MOST_BYTES + 1];
        private final int[] numbers = new int[MOST_BYTES + 1];
        private final int[] starts = new int[MOST_BYTES + 1];
        private int size = 0;
        private int cursor = NONE;
        private int token = END;
        private int number = 0;
        private int faultKind = 0;
        private int faultPlace = NONE;

        private void append(int fed) {
            for (int shift = 24; shift >= 0; shift -= 8) {
                if (held < bytes.length) {
                    bytes[held] = (byte) (fed >> shift);
                    held++;
                }
            }
        }

        /** The tape's first bytes become a text of tokens; it is empty then. */
        private void open(int n) {
            int length = Math.min(n, held);
            held = 0;
            size = 0;
            int at = 0;
            for (int i = 0; i < length && at < length; i++) {
                at = isBlank(bytes[at]) ? at + 1 : takeToken(at, length);
            }
            put(END, 0, length);
            faultKind = 0;
            faultPlace = NONE;
            cursor = NONE;
            advance();
        }

        /** Puts the token that begins at a byte, and tells where it ends: always behind that byte. */
        private int takeToken(int start, int length) {
            if (isLetter(bytes[start])) {
                int end = start + 1;
                while (end < length && isLetter(bytes[end])) {
                    end++;
                }
                put(wordAt(start, end), 0, start);
                return end;
            }
            if (isDigit(bytes[start])) {
                int end = start + 1;
                while (end < length && isDigit(bytes[end])) {
                    end++;
                }
                put(NUMBER, numberAt(start, end), start);
                return end;
            }
            put(isSign(bytes[start]) ? bytes[start] : BAD, 0, start);
            return start + 1;
        }

        private void put(int kind, int worth, int start) {
            if (size < tokens.length) {
                tokens[size] = kind;
                numbers[size] = worth;
                starts[size] = start;
                size++;
            }
        }

        private void advance() {
            if (cursor + 1 < size) {
                cursor++;
                token = tokens[cursor];
                number = numbers[cursor];
            }
        }

        /** A number of too many digits becomes one that is above all bounds. */
        private int numberAt(int start, int end) {
            if (end - start > MOST_DIGITS) {
                return MOST_NUMBER + 1;
            }
            int worth = 0;
            for (int i = start; i < end; i++) {
                worth = worth * 10 + bytes[i] - '0';
            }
            return worth;
        }

        private int wordAt(int start, int end) {
            if (spells(start, end, "run")) return RUN_WORD;
            if (spells(start, end, "splice")) return SPLICE_WORD;
            if (spells(start, end, "plug")) return PLUG_WORD;
            if (spells(start, end, "amp")) return AMP_WORD;
            if (spells(start, end, "noise")) return NOISE_WORD;
            if (spells(start, end, "or")) return OR_WORD;
            if (spells(start, end, "and")) return AND_WORD;
            if (spells(start, end, "not")) return NOT_WORD;
            if (spells(start, end, "colour")) return COLOUR_WORD;
            if (spells(start, end, "age")) return AGE_WORD;
            if (spells(start, end, "length")) return LENGTH_WORD;
            if (spells(start, end, "size")) return SIZE_WORD;
            if (spells(start, end, "nth")) return NTH_WORD;
            return OTHER_WORD;
        }

        private boolean spells(int start, int end, String word) {
            if (end - start != word.length()) {
                return false;
            }
            for (int i = start; i < end; i++) {
                if (bytes[i] != word.charAt(i - start)) {
                    return false;
                }
            }
            return true;
        }

        private boolean isNumberIn(int least, int most) {
            return token == NUMBER && number >= least && number <= most;
        }

        private boolean refuse(int kind) {
            faultKind = kind;
            faultPlace = cursor < 0 ? 0 : starts[cursor];
            return false;
        }

        private boolean refuseNumber() {
            return refuse(token == NUMBER ? TOO_MUCH : CANNOT_STAND);
        }

        private boolean passSign(char sign) {
            if (token != sign) {
                return refuse(CANNOT_STAND);
            }
            advance();
            return true;
        }

        private static boolean isWord(int token) {
            return token == OTHER_WORD || token >= FIRST_WORD;
        }

        private static boolean isBlank(int b) {
            return b == ' ' || b == '\n';
        }

        private static boolean isLetter(int b) {
            return b >= 'a' && b <= 'z';
        }

        private static boolean isDigit(int b) {
            return b >= '0' && b <= '9';
        }

        private static boolean isSign(int b) {
            return b == ';' || b == '(' || b == ')' || b == '+' || b == '-'
                    || b == '*' || b == '/' || b == '<' || b == '=';
        }
    }

    /** A thread: its parts in the order of its text. */
    private static final class Strand {
        private static final int MOST_LENGTH = 9999;
        private static final int MOST_THROWN = 99;
        private static final int MOST_GAIN = 40000;
        private static final int MOST_AMPS = 6;

        private final int[] kinds = new int[MOST_PARTS];
        private final int[] firsts = new int[MOST_PARTS];
        private final int[] seconds = new int[MOST_PARTS];
        private final int[] nths = new int[MOST_PARTS];
        private int parts = 0;
        private int year = 0;

        private boolean readFrom(Tape tape) {
            parts = 0;
            boolean fine = readPart(tape);
            for (int i = 0; i < MOST_PARTS && fine && tape.token != Tape.END; i++) {
                fine = readPart(tape);
            }
            return fine;
        }

        private boolean readPart(Tape tape) {
            int kind = tape.token - Tape.RUN_WORD;
            if (kind < RUN || kind > AMP) {
                return tape.refuse(Tape.CANNOT_STAND);
            }
            int ahead = countOf(kind);
            if (parts >= MOST_PARTS || kind == AMP && ahead >= MOST_AMPS) {
                return tape.refuse(Tape.TOO_MUCH);
            }
            tape.advance();
            kinds[parts] = kind;
            firsts[parts] = 0;
            seconds[parts] = 0;
            nths[parts] = ahead + 1;
            if (!readNumbers(tape, kind) || !tape.passSign(';')) {
                return false;
            }
            parts++;
            return true;
        }

        private boolean readNumbers(Tape tape, int kind) {
            switch (kind) {
                case RUN:
                    return readInto(firsts, tape, 1, MOST_LENGTH);
                case PLUG:
                    return readInto(firsts, tape, 0, MOST_THROWN);
                case AMP:
                    return readInto(firsts, tape, 0, MOST_GAIN) && readInto(seconds, tape, 0, MOST_LEVEL);
                default:
                    return true;
            }
        }

        private boolean readInto(int[] numbers, Tape tape, int least, int most) {
            if (!tape.isNumberIn(least, most)) {
                return tape.refuseNumber();
            }
            numbers[parts] = tape.number;
            tape.advance();
            return true;
        }

        private int countOf(int kind) {
            int many = 0;
            for (int i = 0; i < parts; i++) {
                if (kinds[i] == kind) {
                    many++;
                }
            }
            return many;
        }

        private boolean canHappen(int event, int part, int number) {
            boolean isRun = kinds[part] == RUN;
            switch (event) {
                case BENT:
                    return isRun && number >= 1 && number <= MOST_BEND;
                case CUT:
                    return isRun && number >= 0 && number <= firsts[part];
                case OFF:
                    return kinds[part] == AMP && number == 0;
                default:
                    return number == 0;
            }
        }
    }

    /** A law of loss: its expressions as rows of signs, each sign behind what it joins. */
    private static final class Law {
        private static final int MOST_CLAUSES = 16;
        private static final int MOST_DEPTH = 6;
        private static final int MOST_NOTS = 6;
        private static final int MOST_LOSS = 99999;
        private static final int KINDS = 4;
        private static final int VALUES = 5;
        // five joinings may wait at each depth, so 31 numbers at most are held at once
        private static final int MOST_HELD = 40;

        private static final int OR_LEVEL = 0;
        private static final int AND_LEVEL = 1;
        private static final int NOT_LEVEL = 2;
        private static final int TEST_LEVEL = 3;
        private static final int SUM_LEVEL = 4;
        private static final int PRODUCT_LEVEL = 5;
        private static final int POINT_LEVEL = 6;

        private final int[] signs = new int[MOST_BYTES];
        private final int[] numbers = new int[MOST_BYTES];
        private int size = 0;
        private final int[] begins = new int[KINDS];
        private final int[] ends = new int[KINDS];
        private final int[] values = new int[VALUES];
        private final int[] stack = new int[MOST_HELD];

        private Law() {
            Arrays.fill(begins, NONE);
        }

        private boolean readFrom(Tape tape) {
            size = 0;
            Arrays.fill(begins, NONE);
            boolean fine = true;
            for (int i = 0; i <= MOST_CLAUSES && fine && tape.token != Tape.END; i++) {
                fine = readClause(tape, i);
            }
            return fine;
        }

        private boolean readClause(Tape tape, int ahead) {
            int kind = clauseKind(tape.token);
            if (kind == NONE) {
                return tape.refuse(Tape.CANNOT_STAND);
            }
            if (ahead >= MOST_CLAUSES) {
                return tape.refuse(Tape.TOO_MUCH);
            }
            tape.advance();
            int begin = size;
            if (!readExpression(tape, 0) || !tape.passSign(';')) {
                return false;
            }
            begins[kind] = begin;
            ends[kind] = size;
            return true;
        }

        private boolean readExpression(Tape tape, int depth) {
            if (depth >= MOST_DEPTH) {
                return tape.refuse(canBegin(tape.token) ? Tape.TOO_MUCH : Tape.CANNOT_STAND);
            }
            return readChain(tape, OR_LEVEL, depth);
        }

        /** Reads what stands at one level, from 'or', the loosest, on; each level is made of the next one. */
        private boolean readChain(Tape tape, int level, int depth) {
            if (level == NOT_LEVEL) {
                return readNots(tape, depth);
            }
            if (level >= POINT_LEVEL) {
                return readPoint(tape, depth);
            }
            int most = level == TEST_LEVEL ? 1 : MOST_BYTES;
            boolean fine = readChain(tape, level + 1, depth);
            for (int i = 0; i < most && fine && levelOf(tape.token) == level; i++) {
                int sign = tape.token;
                tape.advance();
                fine = readChain(tape, level + 1, depth) && put(sign, 0);
            }
            return fine;
        }

        private boolean readNots(Tape tape, int depth) {
            int nots = 0;
            while (nots < MOST_NOTS && tape.token == Tape.NOT_WORD) {
                tape.advance();
                nots++;
            }
            if (tape.token == Tape.NOT_WORD) {
                return tape.refuse(Tape.TOO_MUCH);
            }
            boolean fine = readChain(tape, TEST_LEVEL, depth);
            for (int i = 0; i < nots && fine; i++) {
                fine = put(Tape.NOT_WORD, 0);
            }
            return fine;
        }

        private boolean readPoint(Tape tape, int depth) {
            if (tape.token == '(') {
                tape.advance();
                return readExpression(tape, depth + 1) && tape.passSign(')');
            }
            if (tape.token == Tape.NUMBER) {
                if (!tape.isNumberIn(0, Tape.MOST_NUMBER)) {
                    return tape.refuseNumber();
                }
            } else if (!isValue(tape.token)) {
                return tape.refuse(Tape.isWord(tape.token) ? Tape.NO_VALUE : Tape.CANNOT_STAND);
            }
            boolean fine = put(tape.token, tape.number);
            tape.advance();
            return fine;
        }

        /** A text has fewer tokens than bytes, so there is always room; the test keeps the index right. */
        private boolean put(int sign, int number) {
            if (size >= signs.length) {
                return false;
            }
            signs[size] = sign;
            numbers[size] = number;
            size++;
            return true;
        }

        private int lossOf(Strand strand, int part, int colour, int age) {
            int kind = strand.kinds[part];
            int first = strand.firsts[part];
            if (begins[kind] == NONE) {
                return usualLoss(kind, first);
            }
            values[0] = colour;
            values[1] = age;
            values[2] = kind == RUN ? first : 0;
            values[3] = kind == RUN ? 0 : first;
            values[4] = strand.nths[part];
            int worth = worthOf(begins[kind], ends[kind]);
            return Math.max(0, Math.min(MOST_LOSS, worth));
        }

        private int worthOf(int begin, int end) {
            int held = 0;
            for (int i = begin; i < end; i++) {
                int sign = signs[i];
                if (sign == Tape.NUMBER || isValue(sign)) {
                    if (held < stack.length) {
                        stack[held] = sign == Tape.NUMBER ? numbers[i] : values[sign - Tape.COLOUR_WORD];
                        held++;
                    }
                } else if (sign == Tape.NOT_WORD) {
                    if (held > 0) {
                        stack[held - 1] = truth(stack[held - 1] == 0);
                    }
                } else if (held > 1) {
                    held--;
                    stack[held - 1] = joined(sign, stack[held - 1], stack[held]);
                }
            }
            return held > 0 ? stack[held - 1] : 0;
        }

        private static int joined(int sign, int a, int b) {
            switch (sign) {
                case '+':
                    return a + b;
                case '-':
                    return a - b;
                case '*':
                    return a * b;
                case '/':
                    return b == 0 ? 0 : a / b;
                case '<':
                    return truth(a < b);
                case '=':
                    return truth(a == b);
                case Tape.AND_WORD:
                    return truth(a != 0 && b != 0);
                default:
                    return truth(a != 0 || b != 0);
            }
        }

        private static int levelOf(int token) {
            switch (token) {
                case Tape.OR_WORD:
                    return OR_LEVEL;
                case Tape.AND_WORD:
                    return AND_LEVEL;
                case '<':
                case '=':
                    return TEST_LEVEL;
                case '+':
                case '-':
                    return SUM_LEVEL;
                case '*':
                case '/':
                    return PRODUCT_LEVEL;
                default:
                    return NONE;
            }
        }

        private static int clauseKind(int token) {
            if (token == Tape.NOISE_WORD) {
                return AMP;
            }
            return token >= Tape.RUN_WORD && token <= Tape.PLUG_WORD ? token - Tape.RUN_WORD : NONE;
        }

        private static int usualLoss(int kind, int first) {
            switch (kind) {
                case RUN:
                    return 2 * first;
                case SPLICE:
                    return 50;
                case PLUG:
                    return 300;
                default:
                    return 200;
            }
        }

        private static boolean canBegin(int token) {
            return token == Tape.NUMBER || token == '(' || Tape.isWord(token);
        }

        private static boolean isValue(int token) {
            return token >= Tape.COLOUR_WORD && token <= Tape.NTH_WORD;
        }

        private static int truth(boolean holds) {
            return holds ? 1 : 0;
        }
    }

    /** All events that were told, with the evenings on which they were told and taken back. */
    private static final class Diary {
        private static final int MOST_EVENTS = 120;

        private final int[] kinds = new int[MOST_EVENTS];
        private final int[] threads = new int[MOST_EVENTS];
        private final int[] parts = new int[MOST_EVENTS];
        private final int[] numbers = new int[MOST_EVENTS];
        private final int[] days = new int[MOST_EVENTS];
        private final int[] tellings = new int[MOST_EVENTS];
        private final int[] takings = new int[MOST_EVENTS];
        private final int[] byDays = new int[MOST_EVENTS];
        private int size = 0;

        private int tell(int kind, int thread, int part, int number, int day, int evening) {
            if (size >= MOST_EVENTS) {
                return NONE;
            }
            kinds[size] = kind;
            threads[size] = thread;
            parts[size] = part;
            numbers[size] = number;
            days[size] = day;
            tellings[size] = evening;
            takings[size] = NONE;
            int place = size;
            while (place > 0 && days[byDays[place - 1]] > day) {
                byDays[place] = byDays[place - 1];
                place--;
            }
            byDays[place] = size;
            size++;
            return size - 1;
        }

        private boolean takeBack(int event, int evening) {
            if (takings[event] != NONE) {
                return false;
            }
            takings[event] = evening;
            return true;
        }

        private void playInto(Scene scene, int thread, int day, int evening) {
            for (int i = 0; i < size; i++) {
                int event = byDays[i];
                if (threads[event] == thread && days[event] <= day && isKnown(event, evening)) {
                    scene.undergo(kinds[event], parts[event], numbers[event]);
                }
            }
        }

        private boolean isKnown(int event, int evening) {
            return tellings[event] <= evening && (takings[event] == NONE || takings[event] > evening);
        }
    }

    /** One thread as it stands: how its parts are, and what each takes of a light. */
    private static final class Scene {
        private static final int OFF_LOSS = 5000;

        private final int[] bends = new int[MOST_PARTS];
        private final int[] cuts = new int[MOST_PARTS];
        private final boolean[] offs = new boolean[MOST_PARTS];
        private final int[] losses = new int[MOST_PARTS];
        private Strand strand = new Strand();

        /** The thread as it was laid: nothing bent, cut, off. */
        private void show(Strand shown) {
            strand = shown;
            for (int i = 0; i < MOST_PARTS; i++) {
                undergo(MENDED, i, 0);
            }
        }

        private void undergo(int event, int part, int number) {
            switch (event) {
                case BENT:
                    bends[part] += number;
                    break;
                case CUT:
                    cuts[part] = number;
                    break;
                case OFF:
                    offs[part] = true;
                    break;
                default:
                    bends[part] = 0;
                    cuts[part] = NONE;
                    offs[part] = false;
            }
        }

        private void weigh(Law law, int colour, int age) {
            for (int i = 0; i < strand.parts; i++) {
                losses[i] = law.lossOf(strand, i, colour, age);
            }
        }

        private int levelBehind(int part, int sent, boolean end) {
            int level = sent;
            boolean there = false;
            for (int i = 0; i < strand.parts && !there; i++) {
                int at = end ? strand.parts - 1 - i : i;
                if (cuts[at] != NONE) {
                    return NO_LEVEL;
                }
                level = passed(at, level);
                there = at == part;
            }
            return level;
        }

        private int passed(int part, int level) {
            if (strand.kinds[part] != AMP) {
                return level - losses[part] - bends[part];
            }
            if (offs[part]) {
                return level - OFF_LOSS;
            }
            int most = strand.seconds[part];
            return level > most ? level : Math.min(most, level + strand.firsts[part]);
        }

        private boolean isWhole() {
            for (int i = 0; i < strand.parts; i++) {
                if (cuts[i] != NONE) {
                    return false;
                }
            }
            return true;
        }

        private int noiseOfAll() {
            int noise = 0;
            for (int i = 0; i < strand.parts; i++) {
                if (strand.kinds[i] == AMP && !offs[i]) {
                    noise += losses[i];
                }
            }
            return noise;
        }

        private int marginOf(int sent, int need) {
            if (!isWhole()) {
                return NO_MARGIN;
            }
            return levelBehind(strand.parts - 1, sent, false) - need - noiseOfAll();
        }
    }

    /** A row of echoes; its size is NONE as long as there is no row at all. */
    private static final class Row {
        private static final int CUT_ECHO = 3;
        private static final int GHOST = 4;
        private static final int LEAST_SIZE = 40;
        private static final int GHOST_SIZE = 1;
        private static final int LEAST_THROWN = 10;
        // each part makes at most one step (a bent run that is cut, the last one, two) and one ghost
        private static final int MOST_ECHOES = 2 * MOST_PARTS + 1;

        private final int[] distances = new int[MOST_ECHOES];
        private final int[] sizes = new int[MOST_ECHOES];
        private final int[] kinds = new int[MOST_ECHOES];
        private int size = NONE;
        private final int[] mirrors = new int[MOST_PARTS];
        private int mirrorCount = 0;

        private void observe(Scene scene, boolean end, int dead) {
            size = 0;
            mirrorCount = 0;
            Strand strand = scene.strand;
            int gone = 0;
            boolean ended = false;
            for (int i = 0; i < strand.parts && !ended; i++) {
                int part = end ? strand.parts - 1 - i : i;
                int kind = strand.kinds[part];
                if (kind == RUN) {
                    gone += passRun(scene, part, gone, end, dead);
                } else if (kind != AMP) {
                    boolean isSeen = step(gone, scene.losses[part], kind, dead);
                    if (isSeen && kind == PLUG && strand.firsts[part] >= LEAST_THROWN) {
                        addMirror(gone);
                    }
                }
                ended = kind == AMP || scene.cuts[part] != NONE;
            }
            addGhosts(gone, dead);
        }

        /** How much of a run the light passes until it comes out, or to where the run is cut. */
        private int passRun(Scene scene, int part, int gone, boolean end, int dead) {
            int length = scene.strand.firsts[part];
            int cut = scene.cuts[part];
            int open = length;
            if (cut != NONE) {
                open = end ? length - cut : cut;
            }
            int middle = length / 2;
            if (scene.bends[part] > 0 && middle <= open) {
                step(gone + middle, scene.bends[part], BENT, dead);
            }
            if (cut != NONE) {
                step(gone + open, 0, CUT_ECHO, dead);
            }
            return open;
        }

        private boolean step(int distance, int loss, int kind, int dead) {
            boolean isSeen = size == 0
                    || distance - distances[size - 1] > dead && (loss >= LEAST_SIZE || kind == CUT_ECHO);
            if (isSeen) {
                insert(size, distance, loss, kind);
            }
            return isSeen;
        }

        private void addMirror(int distance) {
            if (distance > 0 && mirrorCount < mirrors.length) {
                mirrors[mirrorCount] = distance;
                mirrorCount++;
            }
        }

        private void addGhosts(int whole, int dead) {
            for (int i = 0; i < mirrorCount; i++) {
                int distance = 2 * mirrors[i];
                if (distance < whole && !isNearSeen(distance, dead)) {
                    insert(placeBehind(distance), distance, GHOST_SIZE, GHOST);
                }
            }
        }

        private boolean isNearSeen(int distance, int dead) {
            for (int i = 0; i < size; i++) {
                if (kinds[i] != GHOST && Math.abs(distances[i] - distance) <= dead) {
                    return true;
                }
            }
            return false;
        }

        private int placeBehind(int distance) {
            int place = 0;
            while (place < size && distances[place] <= distance) {
                place++;
            }
            return place;
        }

        private void insert(int place, int distance, int echoSize, int kind) {
            if (size >= MOST_ECHOES) {
                return;
            }
            for (int i = size; i > place; i--) {
                distances[i] = distances[i - 1];
                sizes[i] = sizes[i - 1];
                kinds[i] = kinds[i - 1];
            }
            distances[place] = distance;
            sizes[place] = echoSize;
            kinds[place] = kind;
            size++;
        }

        private void takeOver(Row other) {
            size = 0;
            for (int i = 0; i < other.size; i++) {
                insert(i, other.distances[i], other.sizes[i], other.kinds[i]);
            }
        }

        private void readFrom(Sheet page, int at, int echoes) {
            size = 0;
            for (int i = 0; i < echoes; i++) {
                int place = at + i * Sheet.PLACES_AN_ECHO;
                insert(i, page.places[place], page.places[place + 1], page.places[place + 2]);
            }
        }

        private boolean looksLike(Row other) {
            if (size != other.size) {
                return false;
            }
            for (int i = 0; i < size; i++) {
                if (distances[i] != other.distances[i] || sizes[i] != other.sizes[i]) {
                    return false;
                }
            }
            return true;
        }
    }

    /** Read back: suspects of one thread, the rows that were told, and what the last search found. */
    private static final class Inquiry {
        private static final int MOST_SUSPECTS = 8;

        private Strand strand = null;
        private final int[] parts = new int[MOST_SUSPECTS];
        private final int[] bends = new int[MOST_SUSPECTS];
        private int suspects = 0;
        private final Row fromBeginning = new Row();
        private final Row fromEnd = new Row();
        private final Row trial = new Row();
        private int sets = NONE;
        private int firstSet = NONE;
        private int inAll = 0;
        private int inSome = 0;

        private void beginWith(Strand looked) {
            strand = looked;
            suspects = 0;
            fromBeginning.size = NONE;
            fromEnd.size = NONE;
        }

        private int accuse(int part, int bend) {
            if (suspects >= MOST_SUSPECTS || isSuspect(part)) {
                return NONE;
            }
            parts[suspects] = part;
            bends[suspects] = bend;
            suspects++;
            return suspects;
        }

        private boolean isSuspect(int part) {
            for (int i = 0; i < suspects; i++) {
                if (parts[i] == part) {
                    return true;
                }
            }
            return false;
        }

        private Row toldRow(boolean end) {
            return end ? fromEnd : fromBeginning;
        }

        private int search(Scene scene, int dead) {
            sets = 0;
            firstSet = NONE;
            inAll = 0;
            inSome = 0;
            for (int set = 0; set < 1 << suspects; set++) {
                bend(scene, set);
                if (agrees(scene, false, dead) && agrees(scene, true, dead)) {
                    keep(set);
                }
            }
            return sets;
        }

        private void bend(Scene scene, int set) {
            for (int i = 0; i < suspects; i++) {
                scene.bends[parts[i]] = (set >> i & 1) == 1 ? bends[i] : 0;
            }
        }

        private boolean agrees(Scene scene, boolean end, int dead) {
            Row told = toldRow(end);
            if (told.size == NONE) {
                return true;
            }
            trial.observe(scene, end, dead);
            return trial.looksLike(told);
        }

        private void keep(int set) {
            if (sets == 0) {
                firstSet = set;
                inAll = set;
            }
            inAll &= set;
            inSome |= set;
            sets++;
        }
    }

    /** Lamps of one thread: what margin each has by its own steps, and the steps that were chosen. */
    private static final class Lamps {
        private static final int MOST = 4;
        private static final int STEPS = 8;
        private static final int STEP = 500;
        private static final int DISTURBANCE = 100;

        private final int[] needs = new int[MOST];
        private final int[][] margins = new int[MOST][STEPS];
        private final int[] trial = new int[MOST];
        private final int[] chosen = new int[MOST];
        private int size = 0;

        private void setNeeds(int a, int b, int c, int d) {
            needs[0] = a;
            needs[1] = b;
            needs[2] = c;
            needs[3] = d;
        }

        private void measure(Scene scene, int colour, int base) {
            for (int i = 0; i < STEPS; i++) {
                margins[colour][i] = scene.marginOf(base + i * STEP, needs[colour]);
            }
        }

        private int choose(int lamps) {
            int rows = 1;
            for (int i = 0; i < lamps; i++) {
                rows *= STEPS;
            }
            int best = 0;
            int fewest = NONE;
            for (int i = 0; i < rows; i++) {
                int total = setTrial(lamps, i);
                int least = leastMargin(lamps);
                // rows come in their order, so of like ones the first stays
                if (fewest == NONE || least > best || least == best && total < fewest) {
                    best = least;
                    fewest = total;
                    System.arraycopy(trial, 0, chosen, 0, lamps);
                }
            }
            size = lamps;
            return best;
        }

        private int setTrial(int lamps, int row) {
            int rest = row;
            int total = 0;
            for (int i = lamps - 1; i >= 0; i--) {
                trial[i] = rest % STEPS;
                total += trial[i];
                rest /= STEPS;
            }
            return total;
        }

        private int leastMargin(int lamps) {
            int least = 0;
            for (int i = 0; i < lamps; i++) {
                int margin = margins[i][trial[i]] - disturbed(lamps, i);
                least = i == 0 ? margin : Math.min(least, margin);
            }
            return least;
        }

        private int disturbed(int lamps, int colour) {
            int sum = 0;
            for (int i = 0; i < lamps; i++) {
                if (i != colour) {
                    sum += trial[i] * DISTURBANCE / Math.abs(i - colour);
                }
            }
            return sum;
        }
    }

    /** A way along cables, with its cost and its cables as bits. */
    private static final class Way {
        private final int[] cables = new int[NODES];
        private int size = 0;
        private int cost = 0;
        private int bits = 0;

        private void clear() {
            size = 0;
            cost = 0;
            bits = 0;
        }

        private void add(int cable, int price) {
            if (size < cables.length) {
                cables[size] = cable;
                size++;
                cost += price;
                bits |= 1 << cable;
            }
        }

        private void dropLast(int price) {
            if (size > 0) {
                size--;
                cost -= price;
                bits &= ~(1 << cables[size]);
            }
        }

        private void takeOver(Way other) {
            System.arraycopy(other.cables, 0, cables, 0, NODES);
            size = other.size;
            cost = other.cost;
            bits = other.bits;
        }

        /** Searches meet ways in their order as rows, so of like ones the one met first stays. */
        private boolean isLessThan(Way other) {
            return cost < other.cost || cost == other.cost && size < other.size;
        }
    }

    /** Cables between nodes, tasks over them, the ways that are kept, and the colours dealt. */
    private static final class Net {
        private static final int MOST_CABLES = 10;
        private static final int MOST_TASKS = 6;

        private final int[] nears = new int[MOST_CABLES];
        private final int[] fars = new int[MOST_CABLES];
        private final int[] threads = new int[MOST_CABLES];
        private final int[] colours = new int[MOST_CABLES];
        private final int[] costs = new int[MOST_CABLES];
        private int cables = 0;
        private final int[] sources = new int[MOST_TASKS];
        private final int[] goals = new int[MOST_TASKS];
        private int tasks = 0;
        private final Way walk = new Way();
        private final Way least = new Way();
        private final Way lead = new Way();
        private final Way keptFirst = new Way();
        private final Way keptOther = new Way();
        private int pairCost = NONE;
        private final int[] taskCables = new int[MOST_TASKS];
        private final int[] trialColours = new int[MOST_TASKS];
        private final int[] dealtColours = new int[MOST_TASKS];
        private int dealtSize = 0;

        private int addCable(int a, int b, int thread, int many) {
            if (cables >= MOST_CABLES) {
                return NONE;
            }
            nears[cables] = a;
            fars[cables] = b;
            threads[cables] = thread;
            colours[cables] = many;
            cables++;
            return cables - 1;
        }

        private int addTask(int a, int b) {
            if (tasks >= MOST_TASKS) {
                return NONE;
            }
            sources[tasks] = a;
            goals[tasks] = b;
            tasks++;
            return tasks - 1;
        }

        /** Costs follow the law told last, so they are taken anew for each search. */
        private void weigh(Strand[] strands, Law law) {
            for (int i = 0; i < cables; i++) {
                Strand strand = strands[threads[i]];
                int cost = 0;
                for (int part = 0; part < strand.parts; part++) {
                    if (strand.kinds[part] != AMP) {
                        cost += law.lossOf(strand, part, 0, 0);
                    }
                }
                costs[i] = Math.max(1, cost);
            }
        }

        private int keepLeast(int from, int to) {
            if (!findLeast(from, to, 0)) {
                return NONE;
            }
            keptFirst.takeOver(least);
            keptOther.clear();
            return keptFirst.cost;
        }

        /** The least way that has none of the barred cables, if there is one. */
        private boolean findLeast(int from, int to, int barred) {
            walk.clear();
            least.cost = NONE;
            walkOn(from, to, 1 << from, barred);
            return least.cost != NONE;
        }

        /** No node comes twice, so a walk is never longer than there are nodes. */
        private void walkOn(int node, int to, int nodes, int barred) {
            if (node == to) {
                if (least.cost == NONE || walk.isLessThan(least)) {
                    least.takeOver(walk);
                }
                return;
            }
            for (int i = 0; i < cables && walk.size < NODES; i++) {
                int next = (barred >> i & 1) == 1 ? NONE : otherEnd(i, node);
                if (next != NONE && (nodes >> next & 1) == 0) {
                    walk.add(i, costs[i]);
                    walkOn(next, to, nodes | 1 << next, barred);
                    walk.dropLast(costs[i]);
                }
            }
        }

        private int otherEnd(int cable, int node) {
            if (nears[cable] == node) {
                return fars[cable];
            }
            return fars[cable] == node ? nears[cable] : NONE;
        }

        private int keepPair(int from, int to) {
            pairCost = NONE;
            lead.clear();
            leadOn(from, from, to, 1 << from);
            return pairCost;
        }

        /** Tries each way as the first of a pair; what is kept changes only when a pair is found. */
        private void leadOn(int node, int from, int to, int nodes) {
            if (node == to) {
                if (findLeast(from, to, lead.bits) && isBetterPair()) {
                    pairCost = lead.cost + least.cost;
                    keptFirst.takeOver(lead);
                    keptOther.takeOver(least);
                }
                return;
            }
            for (int i = 0; i < cables && lead.size < NODES; i++) {
                int next = otherEnd(i, node);
                if (next != NONE && (nodes >> next & 1) == 0) {
                    lead.add(i, costs[i]);
                    leadOn(next, from, to, nodes | 1 << next);
                    lead.dropLast(costs[i]);
                }
            }
        }

        private boolean isBetterPair() {
            int cost = lead.cost + least.cost;
            if (pairCost == NONE || cost != pairCost) {
                return pairCost == NONE || cost < pairCost;
            }
            return lead.isLessThan(keptFirst);
        }

        private int dealColours() {
            for (int i = 0; i < tasks; i++) {
                if (!findLeast(sources[i], goals[i], 0)) {
                    return NONE;
                }
                taskCables[i] = least.bits;
            }
            for (int many = 0; many <= COLOURS; many++) {
                if (dealFrom(0, many)) {
                    System.arraycopy(trialColours, 0, dealtColours, 0, tasks);
                    dealtSize = tasks;
                    return many;
                }
            }
            return NONE;
        }

        private boolean dealFrom(int task, int many) {
            if (task >= tasks) {
                return true;
            }
            int most = Math.min(many, leastColours(taskCables[task]));
            for (int colour = 0; colour < most; colour++) {
                if (isFree(task, colour)) {
                    trialColours[task] = colour;
                    if (dealFrom(task + 1, many)) {
                        return true;
                    }
                }
            }
            return false;
        }

        private int leastColours(int bits) {
            int fewest = COLOURS;
            for (int i = 0; i < cables; i++) {
                if ((bits >> i & 1) == 1) {
                    fewest = Math.min(fewest, colours[i]);
                }
            }
            return fewest;
        }

        private boolean isFree(int task, int colour) {
            for (int i = 0; i < task; i++) {
                if (trialColours[i] == colour && (taskCables[i] & taskCables[task]) != 0) {
                    return false;
                }
            }
            return true;
        }

        private int lostBy(int cut) {
            int lostTasks = 0;
            for (int i = 0; i < tasks; i++) {
                // a task that loses its last way had its least way along a cut cable
                if (isJoined(sources[i], goals[i], 0) && !isJoined(sources[i], goals[i], cut)) {
                    lostTasks |= 1 << i;
                }
            }
            return lostTasks;
        }

        private boolean isJoined(int from, int to, int cut) {
            int reached = 1 << from;
            for (int round = 0; round < NODES; round++) {
                for (int i = 0; i < cables; i++) {
                    int ends = 1 << nears[i] | 1 << fars[i];
                    if ((cut >> i & 1) == 0 && (reached & ends) != 0) {
                        reached |= ends;
                    }
                }
            }
            return (reached >> to & 1) == 1;
        }

        private int worstOf(int many) {
            int worstSet = 0;
            int most = 0;
            for (int i = 0; i < cables; i++) {
                int begin = many == 1 ? i : i + 1;
                int end = many == 1 ? i + 1 : cables;
                for (int j = begin; j < end; j++) {
                    int cut = 1 << i | 1 << j;
                    int lostTasks = Integer.bitCount(lostBy(cut));
                    if (lostTasks > most) {
                        most = lostTasks;
                        worstSet = cut;
                    }
                }
            }
            return worstSet;
        }
    }

    /** A row of numbers of one sort; its size is NONE where it is missing. */
    private static final class Sheet {
        private static final int BYTES = 0;
        private static final int SHORTS = 1;
        private static final int INTS = 2;
        private static final int MOST_PLACES = 24;
        private static final int PLACES_AN_ECHO = 3;

        private final int[] places = new int[MOST_PLACES];
        private int sort = BYTES;
        private int size = NONE;

        private boolean canHold(int v) {
            switch (sort) {
                case BYTES:
                    return v == (byte) v;
                case SHORTS:
                    return v == (short) v;
                default:
                    return true;
            }
        }

        private boolean hasPart(int at, int n) {
            return at >= 0 && n >= 0 && at <= size && n <= size - at;
        }

        private boolean tellsRow(int at, int echoes) {
            int ahead = 0;
            for (int i = 0; i < echoes; i++) {
                int place = at + i * PLACES_AN_ECHO;
                int distance = places[place];
                int kind = places[place + 2];
                if (distance < ahead || places[place + 1] < 0 || kind < 0 || kind > Row.GHOST) {
                    return false;
                }
                ahead = distance;
            }
            return true;
        }
    }
}
