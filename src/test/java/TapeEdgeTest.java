/** The boundary cases of promises 2 to 9, each sentence by itself. */
public final class TapeEdgeTest {
    private static final int BAD = PowerRails.BAD;
    private static final long BLANKS = 0x2020202020202020L;
    private static final String EIGHT = "rail a 1 1 when %s;rail b 1 1;rail c 1 1;rail d 1 1;rail e 1 1;rail f 1 1;"
        + "rail g 1 1;rail h 1 1;";

    public static void main(String[] args) {
        eightBytesBehind();
        highestFirst();
        full();
        fullChangesNothing();
        keepsItsFirst();
        keepsNotMoreOrLess();
        whatIsCutIsGone();
        howManyLines();
        emptyThen();
        whatWasToldStays();
        faultOfTheLatest();
        railsInItsFormula();
        railRefuses();
        ruleRefuses();
        holdsBits();
        holdsRefuses();
        leastSets();
        noneWithinAnother();
        wordsRefuse();
        Due.close();
    }

    private static PowerRails fed(int longs) {
        PowerRails x = new PowerRails();
        for (int i = 0; i < longs; i++) {
            x.feed(BLANKS);
        }
        return x;
    }

    private static void eightBytesBehind() {
        Due.says("Eight bytes come behind THE TAPE, the highest first: how many it has.");
        PowerRails x = new PowerRails();
        for (int i = 1; i <= 50; i++) {
            Due.is("feed " + i, x.feed(BLANKS), 8 * i);
            Due.is("bytes " + i, x.count(4), 8 * i);
        }
        PowerRails y = fed(1);
        y.end(3);
        Due.is("behind three", y.feed(BLANKS), 11);
    }

    private static void highestFirst() {
        Due.says("the highest first");
        for (int place = 0; place < 8; place++) {
            PowerRails x = new PowerRails();
            long blankElsewhere = BLANKS & ~(255L << 56 - 8 * place);
            x.feed(blankElsewhere | 35L << 56 - 8 * place);
            Due.is("# at " + place, x.text(), -10 - place);
            x.feed(blankElsewhere | 255L << 56 - 8 * place);
            Due.is("byte 255 at " + place, x.text(), -10 - place);
            Due.is("is no token", x.fault(), 1);
        }
        for (long v : new long[] {0L, -1L, Long.MIN_VALUE, Long.MAX_VALUE}) {
            PowerRails x = new PowerRails();
            Due.is("any long", x.feed(v), 8);
            Due.is("begins with no token", x.text(), -10);
        }
    }

    private static void full() {
        Due.says("FULL: more than 400.");
        for (int n = 384; n <= 400; n++) {
            PowerRails x = fed(50);
            x.end(n);
            Due.is("feed behind " + n, x.feed(BLANKS), n <= 392 ? n + 8 : PowerRails.FULL);
        }
    }

    private static void fullChangesNothing() {
        Due.says("FULL: what is refused changes nothing");
        for (int n = 393; n <= 400; n++) {
            PowerRails x = fed(50);
            x.end(n - 8);
            x.feed(Due.eight("limit 7;", 0));
            x.end(n);
            Due.is("refused behind " + n, x.feed(-1L), PowerRails.FULL);
            Due.is("bytes behind " + n, x.count(4), n);
            Due.is("text behind " + n, x.text(), 1);
            Due.is("limit behind " + n, x.rule(0), 7);
        }
    }

    private static void keepsItsFirst() {
        Due.says("THE TAPE keeps its first n bytes: how many it had.");
        PowerRails x = fed(50);
        Due.is("all", x.end(400), 400);
        Due.is("one less", x.end(399), 400);
        Due.is("bytes", x.count(4), 399);
        Due.is("one", x.end(1), 399);
        Due.is("none", x.end(0), 1);
        Due.is("none of none", x.end(0), 0);
        PowerRails y = new PowerRails();
        y.feed(Due.eight("limit 89", 0));
        y.end(7);
        y.feed(Due.eight(";       ", 0));
        Due.is("the first", y.text(), 1);
        Due.is("are kept", y.rule(0), 8);
    }

    private static void keepsNotMoreOrLess() {
        Due.says("end: BAD.");
        for (int had = 0; had <= 50; had++) {
            PowerRails x = fed(had);
            for (int n : new int[] {-1, 8 * had + 1, 401, Integer.MIN_VALUE, Integer.MAX_VALUE}) {
                Due.is("end " + n + " of " + 8 * had, x.end(n), BAD);
                Due.is("bytes behind that", x.count(4), 8 * had);
            }
            Due.is("end of all", x.end(8 * had), 8 * had);
        }
    }

    private static void whatIsCutIsGone() {
        Due.says("THE TAPE keeps its first n bytes");
        PowerRails x = new PowerRails();
        Due.feed(x, "limit 777;");
        x.end(7);
        Due.is("what was cut", x.end(10), BAD);
        Due.feed(x, ";");
        Due.is("does not come back", x.text(), 1);
        Due.is("limit", x.rule(0), 7);
        Due.feed(x, "limit 7;");
        x.end(0);
        Due.is("all cut", x.text(), 0);
        Due.is("limit at first", x.rule(0), 999);
    }

    private static void howManyLines() {
        Due.says("THE TAPE (empty then) tells all: how many lines");
        Due.is("none", new PowerRails().text(), 0);
        Due.is("of blanks", fed(50).text(), 0);
        String[] lines = {"limit 1;", "rail a 1 1;", "rail b 1 1;", "retry 1 1;", "rail c 1 1;", "rail d 1 1;",
            "rail e 1 1;", "rail f 1 1;", "rail g 1 1;", "rail h 1 1;"};
        StringBuilder s = new StringBuilder();
        for (int n = 1; n <= lines.length; n++) {
            Due.is("lines", Due.tell(new PowerRails(), s.append(lines[n - 1]).toString()), n);
        }
    }

    private static void emptyThen() {
        Due.says("THE TAPE (empty then)");
        PowerRails x = new PowerRails();
        Due.tell(x, "rail a 1 1;");
        Due.is("taken", x.count(4), 0);
        Due.is("nothing to keep", x.end(1), BAD);
        Due.tell(x, "rail a 1 1;#");
        Due.is("refused", x.count(4), 0);
        Due.is("fed anew from place 0", x.feed(BLANKS), 8);
        Due.is("an empty one is taken", x.text(), 0);
        Due.is("no rails then", x.count(0), 0);
    }

    private static void whatWasToldStays() {
        Due.says("-10 less the place of its FAULT: that which was told stays.");
        String[] refused = {"#", "rail a 3 3;limit 5", "rail a 3 3;limit 0;", "limit 5;rail a 3 3;limit 4;",
            "limit 5;rail a 3 3 when (((((((a", "limit 5;retry 3 3;rail a 3 3 when b;"};
        int[] places = {0, 18, 17, 19, 30, 34};
        for (int i = 0; i < refused.length; i++) {
            PowerRails x = Due.of("rail a 1 2 wait 1 when key;limit 9;retry 1 2;");
            x.key(true);
            x.dead(0, true);
            x.time(0, 2);
            x.go(1);
            Due.is("text", Due.tell(x, refused[i]), -10 - places[i]);
            Due.is("fault", x.fault(), i + 1);
            Due.is("least", x.rail(0, 0), 1);
            Due.is("formula", x.rail(0, 7), 256);
            Due.is("limit", x.rule(0), 9);
            Due.is("retry", x.rule(1), 1);
            Due.is("behind", x.rule(2), 2);
            Due.is("tick", x.now(0), 1);
            Due.is("key", x.now(7), 1);
            Due.is("waits", x.is(0, 0), 1);
            Due.is("dead", x.is(0, 2), 1);
            Due.is("takes", x.is(0, 3), 2);
            Due.same("history", Due.history(x), "0a1");
        }
    }

    private static void faultOfTheLatest() {
        Due.says("The FAULT of the latest text(); 0.");
        PowerRails x = new PowerRails();
        Due.is("none yet", x.fault(), 0);
        Due.is("one", Due.tell(x, "#"), -10);
        Due.is("of it", x.fault(), 1);
        Due.is("asked again", x.fault(), 1);
        Due.tell(x, "limit 0;");
        Due.is("of another", x.fault(), 3);
        Due.feed(x, "limit 1;");
        Due.is("not yet read", x.fault(), 3);
        x.text();
        Due.is("of one that is taken", x.fault(), 0);
        Due.tell(x, "x");
        Due.is("of one behind it", x.fault(), 2);
        x.text();
        Due.is("of an empty one", x.fault(), 0);
    }

    private static PowerRails eight(String formula) {
        return Due.of(String.format(EIGHT, formula));
    }

    private static void railsInItsFormula() {
        Due.says("7 RAILS in its formula (bits; 256: key)");
        for (int r = 0; r < 8; r++) {
            Due.is("one", eight(String.valueOf((char) ('a' + r))).rail(0, 7), 1 << r);
        }
        Due.is("key", eight("key").rail(0, 7), 256);
        Due.is("all", eight("a&b&c&d|e|f|g|(h&key)").rail(0, 7), 511);
        Due.is("though it does not matter", eight("a|a&h").rail(0, 7), 129);
        Due.is("twice", eight("b|b&b").rail(0, 7), 2);
    }

    private static void railRefuses() {
        Due.says("rail: BAD.");
        PowerRails x = Due.of("rail a 1 2 fall 3 draw 4 5 wait 6 within 7;rail b 9 9;");
        for (int what = 0; what < 7; what++) {
            Due.is("part " + what, x.rail(0, what), what + 1);
        }
        for (int what : new int[] {-1, 8, 9, 10, Integer.MIN_VALUE, Integer.MAX_VALUE}) {
            Due.is("part " + what, x.rail(0, what), BAD);
            Due.is("part of b " + what, x.rail(1, what), BAD);
        }
        Due.is("no rail c", x.rail(2, 0), BAD);
        Due.is("no rail -1", x.rail(-1, 8), BAD);
    }

    private static void ruleRefuses() {
        Due.says("rule: BAD.");
        PowerRails x = Due.of("limit 12;retry 3 45;rail a 1 1;");
        int[] due = {12, 3, 45, 1};
        for (int what = 0; what < 4; what++) {
            Due.is("rule " + what, x.rule(what), due[what]);
        }
        for (int what : new int[] {-1, 4, 5, 10, Integer.MIN_VALUE, Integer.MAX_VALUE}) {
            Due.is("rule " + what, x.rule(what), BAD);
        }
    }

    private static void holdsBits() {
        Due.says("if some RAILS are GOOD (bits; 256: THE KEY is on) (1, 0)");
        PowerRails x = eight("a&b|h&key");
        Due.is("none", x.holds(0, 0), 0);
        Due.is("all", x.holds(0, 511), 1);
        Due.is("all but the key", x.holds(0, 255), 1);
        Due.is("the key alone", x.holds(0, 256), 0);
        Due.is("a", x.holds(0, 1), 0);
        Due.is("a and b", x.holds(0, 3), 1);
        Due.is("h", x.holds(0, 128), 0);
        Due.is("h and the key", x.holds(0, 384), 1);
        Due.is("all but b and h", x.holds(0, 511 - 2 - 128), 0);
        Due.is("not as it is but as it is asked", x.holds(1, 256), 1);
        x.key(true);
        Due.is("though the key is on", x.holds(1, 0), 0);
    }

    private static void holdsRefuses() {
        Due.says("holds: BAD.");
        PowerRails x = eight("a");
        for (int good : new int[] {512, 513, 1024, -1, Integer.MIN_VALUE, Integer.MAX_VALUE, 1 << 30}) {
            Due.is("holds with " + good, x.holds(0, good), BAD);
        }
        PowerRails y = Due.of("rail a 1 1;rail b 1 1 when a;");
        Due.is("both and the key", y.holds(1, 259), 1);
        for (int bit = 4; bit <= 128; bit *= 2) {
            Due.is("no such rail " + bit, y.holds(1, bit), BAD);
            Due.is("no such rail among others " + bit, y.holds(1, bit | 259), BAD);
        }
    }

    private static void sets(String formula, int... due) {
        PowerRails x = eight(formula);
        Due.is("how many of " + formula, x.words(0, 0), due.length);
        for (int i = 0; i < due.length; i++) {
            Due.is("set " + i + " of " + formula, x.words(0, 10 + i), due[i]);
        }
        Due.is("none behind those of " + formula, x.words(0, 10 + due.length), BAD);
    }

    private static void leastSets() {
        Due.says("the least sets of RAILS (and key, 256) of which all must be (of 9 bits), by rising bits");
        sets("key", 256);
        sets("a", 1);
        sets("h", 128);
        sets("a&b&c&d&e&f&g&h&key", 511);
        sets("key|h|g|f|e|d|c|b|a", 1, 2, 4, 8, 16, 32, 64, 128, 256);
        sets("key&a|h&b", 130, 257);
        sets("(a|b)&(c|d)", 5, 6, 9, 10);
        PowerRails x = eight("(a|b|c)&(d|e|f)&(g|h|key)");
        Due.is("twenty-seven", x.words(0, 0), 27);
        Due.is("the first", x.words(0, 10), 1 + 8 + 64);
        Due.is("the last", x.words(0, 36), 4 + 32 + 256);
        Due.is("none behind", x.words(0, 37), BAD);
    }

    private static void noneWithinAnother() {
        Due.says("(none of them within another one)");
        sets("a|a", 1);
        sets("a&a", 1);
        sets("a|a&b", 1);
        sets("a&b|a", 1);
        sets("a&(a|b)", 1);
        sets("(a|b)&(a|c)", 1, 6);
        sets("a&b&c|a&b|c&b", 3, 6);
        sets("a&b|b&c|c&a", 3, 5, 6);
        sets("(key|a)&(key|b)&key", 256);
    }

    private static void wordsRefuse() {
        Due.says("words: BAD: also a set that there is not.");
        PowerRails x = Due.of("rail a 1 1 when a|b;rail b 1 1;");
        Due.is("how many", x.words(0, 0), 2);
        Due.is("the last", x.words(0, 11), 2);
        Due.is("b's own", x.words(1, 10), 256);
        Due.is("b has no second", x.words(1, 11), BAD);
        for (int what : new int[] {-1, 1, 2, 9, 12, 13, 521, 522, Integer.MIN_VALUE, Integer.MAX_VALUE,
            Integer.MIN_VALUE + 10}) {
            Due.is("words " + what, x.words(0, what), BAD);
        }
    }
}
