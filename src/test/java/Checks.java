import java.util.NoSuchElementException;

/** What the tests share: asking whether an answer is the one that is due, and putting texts on the tape. */
final class Checks {
    interface Call {
        void run();
    }

    static final int NONE = GlassThreads.NONE;
    private static int asked = 0;
    private static int wrong = 0;

    private Checks() {
    }

    static void is(String what, long due, long got) {
        asked++;
        if (due != got) {
            wrong++;
            System.out.println(what + ": answered " + got + ", due is " + due);
        }
    }

    static void is(String what, boolean due, boolean got) {
        is(what, due ? 1 : 0, got ? 1 : 0);
    }

    static void noSuch(String what, Call call) {
        fails(what, NoSuchElementException.class, call);
    }

    static void illegal(String what, Call call) {
        fails(what, IllegalArgumentException.class, call);
    }

    private static void fails(String what, Class<?> due, Call call) {
        asked++;
        Class<?> got = null;
        try {
            call.run();
        } catch (RuntimeException e) {
            got = e.getClass();
        }
        if (got != due) {
            wrong++;
            System.out.println(what + ": threw " + got + ", due is " + due);
        }
    }

    static void feed(GlassThreads x, byte[] text) {
        for (int at = 0; at < text.length; at += 20) {
            int[] words = new int[5];
            for (int i = 0; i < 20; i++) {
                int b = at + i < text.length ? text[at + i] & 255 : ' ';
                words[i / 4] |= b << (24 - 8 * (i % 4));
            }
            x.feed(words[0], words[1], words[2], words[3], words[4]);
        }
    }

    static void feed(GlassThreads x, String text) {
        byte[] bytes = new byte[text.length()];
        for (int i = 0; i < bytes.length; i++) {
            bytes[i] = (byte) text.charAt(i);
        }
        feed(x, bytes);
    }

    static int thread(GlassThreads x, String text, int year) {
        feed(x, text);
        return x.thread(text.length(), year);
    }

    static int law(GlassThreads x, String text) {
        feed(x, text);
        return x.law(text.length());
    }

    static void end() {
        System.out.println(asked + " asked, " + wrong + " wrong");
        if (wrong != 0 || asked == 0) {
            System.exit(1);
        }
    }
}
