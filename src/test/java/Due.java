/** Counts answers that are not as due, and feeds texts. Every test ends with Due.close(). */
final class Due {
    private static int asked = 0;
    private static int wrong = 0;
    private static String sentence = "";

    private Due() {
    }

    /** The sentence of the document that the answers asked from here on bear out. */
    static void says(String words) {
        sentence = "[" + words + "] ";
    }

    static void is(String what, long got, long want) {
        asked++;
        if (got != want) {
            tellWrong(what, String.valueOf(got), String.valueOf(want));
        }
    }

    static void same(String what, String got, String want) {
        asked++;
        if (!got.equals(want)) {
            tellWrong(what, got, want);
        }
    }

    private static void tellWrong(String what, String got, String want) {
        wrong++;
        System.out.println(sentence + what + " answered " + got + ", due is " + want);
    }

    static void feed(PowerRails x, String text) {
        int before = x.count(4);
        for (int i = 0; i < text.length(); i += 8) {
            x.feed(eight(text, i));
        }
        x.end(before + text.length());
    }

    /** Eight bytes of a text from a place on, the highest first; blanks behind its end. */
    static long eight(String text, int from) {
        long v = 0;
        for (int i = from; i < from + 8; i++) {
            v = v << 8 | (i < text.length() ? text.charAt(i) & 255 : ' ');
        }
        return v;
    }

    static int tell(PowerRails x, String text) {
        feed(x, text);
        return x.text();
    }

    /** A new object to which a text was told that must be taken. */
    static PowerRails of(String text) {
        PowerRails x = new PowerRails();
        if (tell(x, text) < 0) {
            wrong++;
            System.out.println(sentence + "refused: " + text + " (fault " + x.fault() + ")");
        }
        return x;
    }

    /** All that happened, as tick, rail, what: "0a1 0a2 3*6"; * is a trip. */
    static String history(PowerRails x) {
        StringBuilder s = new StringBuilder();
        for (int i = 0; i < x.count(2); i++) {
            int who = x.happened(i, 1);
            s.append(i > 0 ? " " : "").append(x.happened(i, 0));
            s.append(who == PowerRails.NONE ? "*" : String.valueOf((char) ('a' + who))).append(x.happened(i, 2));
        }
        return s.toString();
    }

    static void close() {
        if (asked == 0 || wrong > 0) {
            System.out.println(wrong + " of " + asked + " answers are not as due");
            System.exit(1);
        }
        System.out.println("all " + asked + " answers are as due");
    }
}
