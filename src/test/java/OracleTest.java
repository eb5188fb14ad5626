import java.util.Random;

/** All promises: runs of random calls, each answered by the class and by the oracle. The seeds are fixed. */
public final class OracleTest {
    private static final int[] ODD = {-1, -2, 1000, 9999, 10000, 255, 256, 257, 511, 512, 41, 40, 128, -129, 32768,
        Integer.MIN_VALUE, Integer.MAX_VALUE, Integer.MIN_VALUE + 9, Integer.MAX_VALUE - 9};

    private static Random random;
    private static PowerRails x;
    private static Oracle y;
    private static String run;

    public static void main(String[] args) {
        for (int seed = 0; seed < 2000; seed++) {
            random = new Random(seed);
            mixedRun(seed);
        }
        for (int seed = 0; seed < 20000; seed++) {
            random = new Random(seed);
            brokenText(seed);
        }
        for (int seed = 0; seed < 500; seed++) {
            random = new Random(seed);
            sureAsItGoes(seed);
        }
        for (int seed = 0; seed < 25; seed++) {
            random = new Random(seed);
            manyWays(seed);
        }
        Due.close();
    }

    private static int below(int n) {
        return random.nextInt(n);
    }

    private static boolean chance(int percent) {
        return below(100) < percent;
    }

    private static String formula(int rails, int depth) {
        StringBuilder s = new StringBuilder();
        int terms = 1 + below(3);
        for (int i = 0; i < terms; i++) {
            if (i > 0) {
                s.append(chance(50) ? " & " : "|");
            }
            if (depth < 3 && chance(20)) {
                s.append('(').append(formula(rails, depth + 1)).append(')');
            } else {
                s.append(chance(25) ? "key" : String.valueOf((char) ('a' + below(rails))));
            }
        }
        return s.toString();
    }

    private static String text(int rails, int spread) {
        StringBuilder s = new StringBuilder();
        for (int r = 0; r < rails; r++) {
            int least = 1 + below(4);
            s.append("rail ").append((char) ('a' + r)).append(' ').append(least).append(' ');
            s.append(least + below(spread));
            String[] withs = {" fall " + below(4), " draw " + below(9) + " " + below(15), " wait " + below(4),
                " within " + (1 + below(9))};
            int[] chances = {40, 50, 30, 15};
            for (int i = 0; i < 4; i++) {
                s.append(chance(chances[i]) ? withs[i] : "");
            }
            s.append(chance(65) ? " when " + formula(rails, 0) : "").append(';');
        }
        s.append(chance(60) ? "limit " + (5 + below(40)) + ";" : "");
        s.append(chance(50) ? "retry " + below(4) + " " + (1 + below(6)) + ";" : "");
        return s.toString();
    }

    private static void tell(String text) {
        for (int i = 0; i < text.length(); i += 8) {
            long v = 0;
            for (int j = i; j < i + 8; j++) {
                v = v << 8 | (j < text.length() ? text.charAt(j) & 255 : ' ');
            }
            due("feed", x.feed(v), y.feed(v));
        }
        due("end", x.end(text.length()), y.end(text.length()));
        due("text", x.text(), y.text());
        due("fault", x.fault(), y.fault());
    }

    private static void due(String call, int got, int want) {
        Due.is(run + " " + call, got, want);
    }

    private static int some(int n) {
        return chance(6) ? ODD[below(ODD.length)] : below(n + 1);
    }

    private static void mixedRun(int seed) {
        run = "run " + seed;
        x = new PowerRails();
        y = new Oracle();
        // A text more than there are plans in an object, so that each is used again.
        for (int told = 0; told < 4; told++) {
            int rails = 1 + below(chance(70) ? 4 : 8);
            tell(text(rails, rails > 4 ? 2 : 4));
            for (int i = 0; i < 45; i++) {
                switch (below(5)) {
                    case 0 -> askText(rails);
                    case 1, 2 -> askRun(rails);
                    case 3 -> askSure(rails);
                    default -> askRest(rails);
                }
            }
            askAllOfRun(rails);
        }
    }

    private static void askText(int rails) {
        int r = some(rails);
        int what = some(8);
        due("rail " + r + " " + what, x.rail(r, what), y.rail(r, what));
        due("rule " + what, x.rule(what), y.rule(what));
        int good = chance(50) ? below(1 << rails) | below(2) << 8 : some(600);
        due("holds " + r + " " + good, x.holds(r, good), y.holds(r, good));
        due("words " + r, x.words(r, 0), y.words(r, 0));
        int word = some(20);
        due("words " + r + " " + word, x.words(r, word), y.words(r, word));
        due("count " + what, x.count(what), y.count(what));
    }

    private static void askRun(int rails) {
        int r = some(rails);
        int what = some(9);
        boolean on = chance(70);
        switch (below(8)) {
            case 0 -> due("key", x.key(on), y.key(on));
            case 1 -> due("dead " + r, x.dead(r, !on), y.dead(r, !on));
            case 2 -> due("time " + r + " " + what, x.time(r, what), y.time(r, what));
            case 3, 4, 5 -> {
                int n = chance(95) ? some(6) : some(60);
                due("go " + n, x.go(n), y.go(n));
            }
            default -> {
                due("now " + what, x.now(what), y.now(what));
                due("is " + r + " " + what, x.is(r, what), y.is(r, what));
            }
        }
    }

    private static void askAllOfRun(int rails) {
        for (int what = -1; what <= 9; what++) {
            due("now " + what, x.now(what), y.now(what));
            for (int r = -1; r <= rails; r++) {
                due("is " + r + " " + what, x.is(r, what), y.is(r, what));
            }
        }
        for (int i = -1; i <= 64; i++) {
            for (int what = -1; what <= 3; what++) {
                due("happened " + i + " " + what, x.happened(i, what), y.happened(i, what));
            }
        }
    }

    private static void askSure(int rails) {
        int a = some(rails);
        int b = some(rails);
        int what = some(3);
        due("up " + what, x.up(what), y.up(what));
        due("when " + a + " " + what, x.when(a, what), y.when(a, what));
        due("ahead " + a + " " + b + " " + what, x.ahead(a, b, what), y.ahead(a, b, what));
        due("ahead " + a + " " + b + " 1", x.ahead(a, b, 1), y.ahead(a, b, 1));
        int t = some(40);
        due("drawn " + t, x.drawn(t), y.drawn(t));
        due("peak " + what, x.peak(what), y.peak(what));
        if (rails <= 4 || chance(2)) {
            int row = chance(50) ? 0 : 10 + some(rails);
            due("stagger " + row, x.stagger(row), y.stagger(row));
        }
        if (rails <= 4 && chance(20)) {
            due("adopt", x.adopt(), y.adopt());
        }
    }

    private static void askRest(int rails) {
        int r = some(rails);
        int what = some(2);
        int set = some((1 << rails) - 1);
        due("down " + set, x.down(set), y.down(set));
        due("cut " + r + " " + what, x.cut(r, what), y.cut(r, what));
        due("need " + r + " " + what, x.need(r, what), y.need(r, what));
        due("must " + r, x.must(r), y.must(r));
        int good = chance(60) ? y.up(0) & set : set;
        due("seen " + good, x.seen(good), y.seen(good));
        int k = some(3);
        int lane = some(2);
        int n = chance(90) ? some(12) : -1 - below(5);
        if (chance(25)) {
            due("sheet " + k + " " + lane + " " + n, x.sheet(k, lane, n), y.sheet(k, lane, n));
        }
        for (int i = 0; i < 4; i++) {
            int cell = chance(90) ? i : some(12);
            int v = chance(60) ? y.drawn(i) : some(30);
            due("lay " + k + " " + cell + " " + v, x.lay(k, cell, v), y.lay(k, cell, v));
        }
        int f = some(2);
        due("measured " + k + " " + lane + " " + f + " " + n + " " + what,
            x.measured(k, lane, f, n, what), y.measured(k, lane, f, n, what));
        due("count 5", x.count(5), y.count(5));
    }

    private static void brokenText(int seed) {
        run = "broken " + seed;
        x = new PowerRails();
        y = new Oracle();
        StringBuilder s = new StringBuilder(text(1 + below(3), 4));
        String[] bits = {"rail", "limit", "retry", "when", "fall", "draw", "wait", "within", "key", "a", "b", "h", "i",
            "(", ")", "((", "&", "|", ";", "0", "1", "10", "100", "1000", " ", "#", ".", "A", "\n", "\u00e9"};
        for (int i = 1 + below(3); i > 0; i--) {
            int at = below(s.length() + 1);
            if (chance(50)) {
                s.insert(at, chance(50) ? bits[below(bits.length)] : " " + bits[below(bits.length)] + " ");
            } else {
                s.delete(at, Math.min(s.length(), at + 1 + below(6)));
            }
        }
        tell(text(8, 4));
        tell(text(8, 4));
        tell(s.toString());
        for (int r = 0; r < 8; r++) {
            for (int what = 0; what < 8; what++) {
                due("rail " + r + " " + what, x.rail(r, what), y.rail(r, what));
            }
            due("words " + r, x.words(r, 0), y.words(r, 0));
        }
        for (int what = 0; what < 4; what++) {
            due("rule " + what, x.rule(what), y.rule(what));
        }
    }

    /** With nothing that trips and none dead, ticks must bear out what was reckoned ahead of them. */
    private static void sureAsItGoes(int seed) {
        run = "sure " + seed;
        int rails = 1 + below(8);
        String text = text(rails, 4).replaceAll(" within [0-9]+|limit [0-9]+;", "");
        x = new PowerRails();
        if (Due.tell(x, text) < 0) {
            return;
        }
        for (int r = 0; r < rails; r++) {
            x.time(r, x.rail(r, 0) + below(x.rail(r, 1) - x.rail(r, 0) + 1));
        }
        x.key(true);
        int peak = 0;
        for (int t = 0; t < 120; t++) {
            x.go(1);
            due("drawn at " + t, x.drawn(t), x.now(3));
            peak = Math.max(peak, x.now(3));
            for (int r = 0; r < rails; r++) {
                boolean good = x.when(r, 0) != PowerRails.NONE && x.when(r, 0) <= t;
                due("good at " + t, good ? 3 : 0, x.is(r, 0) == 3 ? 3 : 0);
            }
        }
        due("up in the end", x.up(0), x.now(1));
        due("peak in the end", x.peak(0), x.up(0) == 0 ? PowerRails.NONE : peak);
        due("trips", x.now(8), 0);
    }

    private static void manyWays(int seed) {
        run = "many " + seed;
        x = new PowerRails();
        y = new Oracle();
        int rails = 4 + below(5);
        tell(text(rails, rails > 6 ? 4 : 8));
        int ways = y.count(3);
        due("ways", x.count(3), ways);
        for (int i = 0; i < 6; i++) {
            int a = below(rails);
            int b = below(rails);
            due("ahead " + a + " " + b, x.ahead(a, b, i % 2), y.ahead(a, b, i % 2));
        }
        due("peak 2", x.peak(2), y.peak(2));
        due("peak 3", x.peak(3), y.peak(3));
        due("stagger", x.stagger(0), y.stagger(0));
        due("stagger 15", x.stagger(15), y.stagger(15));
    }
}
