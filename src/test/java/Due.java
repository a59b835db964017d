import java.nio.charset.StandardCharsets;

/** What the tests share: feeding a text, comparing an answer with the one that is due, counting wrong ones. */
final class Due {
    private static int wrong = 0;
    private static int compared = 0;
    private static String sentence = "";

    private Due() {
    }

    /** What is compared from here on tests these words of the document; they must stand there, and be tested. */
    static void says(String section, String words) {
        endSentence();
        sentence = section + ", \"" + words + "\": ";
        compared = 0;
        unless(Document.says(section, words), "the document doesn't say so");
    }

    private static void endSentence() {
        unless(sentence.isEmpty() || compared > 0, "nothing is tested");
    }

    private static void unless(boolean is, String what) {
        if (!is) {
            wrong++;
            System.out.println(sentence + what);
        }
    }

    static void same(String call, long got, long want) {
        so(call + " answered " + got + ", due is " + want, got == want);
    }

    static void same(String call, boolean got, boolean want) {
        same(call, got ? 1 : 0, want ? 1 : 0);
    }

    static void so(String what, boolean is) {
        compared++;
        unless(is, what);
    }

    /** Feeds the bytes of a text, filled up with blanks to twenties. */
    static void feed(MarkGuards x, String text) {
        byte[] bytes = text.getBytes(StandardCharsets.ISO_8859_1);
        for (int at = 0; at < bytes.length; at += 20) {
            int[] words = new int[5];
            for (int i = 0; i < 20; i++) {
                int b = at + i < bytes.length ? bytes[at + i] & 255 : 32;
                words[i / 4] = words[i / 4] << 8 | b;
            }
            x.feed(words[0], words[1], words[2], words[3], words[4]);
        }
    }

    static int read(MarkGuards x, String text) {
        feed(x, text);
        return x.text(text.length());
    }

    /** A new object that has read a text without a fault. */
    static MarkGuards of(String text) {
        MarkGuards x = new MarkGuards();
        int lines = read(x, text);
        unless(lines >= 0, "a fault " + x.fault(0) + " at " + x.fault(1) + " in: " + text);
        return x;
    }

    static void faulty(String text, int code, int place) {
        MarkGuards x = new MarkGuards();
        same("text of " + text, read(x, text), -1);
        same("fault(0) of " + text, x.fault(0), code);
        same("fault(1) of " + text, x.fault(1), place);
    }

    /** The text without its one '^', which stands at the place of the fault. */
    static void faulty(int code, String marked) {
        int place = marked.indexOf('^');
        faulty(marked.substring(0, place) + marked.substring(place + 1), code, place);
    }

    /** The text has so many LINES and no fault. */
    static MarkGuards right(String text, int lines) {
        MarkGuards x = new MarkGuards();
        same("text of " + text, read(x, text), lines);
        same("fault(0) of " + text, x.fault(0), 0);
        same("fault(1) of " + text, x.fault(1), -1);
        return x;
    }

    static void finish() {
        endSentence();
        System.exit(wrong > 0 ? 1 : 0);
    }
}
