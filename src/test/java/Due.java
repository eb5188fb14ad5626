/** Counts answers that are not as due, and feeds texts. Every test ends with Due.close(). */
final class Due {
    private static int asked = 0;
    private static int wrong = 0;

    private Due() {
    }

    static void is(String what, long got, long want) {
        asked++;
        if (got != want) {
            wrong++;
            System.out.println(what + " answered " + got + ", due is " + want);
        }
    }

    static void feed(PowerRails x, String text) {
        int before = x.count(4);
        for (int i = 0; i < text.length(); i += 8) {
            long v = 0;
            for (int j = i; j < i + 8; j++) {
                v = v << 8 | (j < text.length() ? text.charAt(j) & 255 : ' ');
            }
            x.feed(v);
        }
        x.end(before + text.length());
    }

    static int tell(PowerRails x, String text) {
        feed(x, text);
        return x.text();
    }

    /** A new object to which a text was told that must be taken. */
    static PowerRails of(String text) {
        PowerRails x = new PowerRails();
        if (tell(x, text) < 0) {
            wrong++;
            System.out.println("refused: " + text + " (fault " + x.fault() + ")");
        }
        return x;
    }

    static void close() {
        if (asked == 0 || wrong > 0) {
            System.out.println(wrong + " of " + asked + " answers are not as due");
            System.exit(1);
        }
        System.out.println("all " + asked + " answers are as due");
    }
}
