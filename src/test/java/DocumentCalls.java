/** Promises 1 to 32 of the document, sentence by sentence. */
final class DocumentCalls {
    private static final int BAD = PowerRails.BAD;
    private static final int STATE = PowerRails.STATE;
    private static final int FULL = PowerRails.FULL;
    private static final int NONE = PowerRails.NONE;
    private static final int SPENT = PowerRails.SPENT;

    private DocumentCalls() {
    }

    static void all() {
        newObject();
        feed();
        end();
        textAndFault();
        rail();
        ruleAndHolds();
        words();
        keyAndDead();
        timeAndGo();
        now();
        is();
        happened();
        up();
        when();
        ahead();
        drawnAndPeak();
        stagger();
        adopt();
        down();
        cut();
        needAndMust();
        seen();
        sheetAndLay();
        measured();
        measuredRefused();
        count();
    }

    private static void promise(int number, String name, String face) {
        Document.passes("## Promise " + number + ": " + name + " `" + face + "`:");
    }

    private static void newObject() {
        promise(1, "A new object", "PowerRails()");
        Document.says("No RAILS; limit, retry as told at first; SHEETS of nothing.");
        PowerRails x = new PowerRails();
        int[] rules = {999, 0, 5, 0};
        for (int what = 0; what < rules.length; what++) {
            Due.is("rule " + what, x.rule(what), rules[what]);
        }
        int[] counts = {0, 0, 0, 1, 0, NONE};
        for (int what = 0; what < counts.length; what++) {
            Due.is("count " + what, x.count(what), counts[what]);
        }
        for (int k = 0; k < 4; k++) {
            Due.is("sheet " + k, x.lay(k, 0, 0), -11);
        }
        for (int what = 0; what <= 8; what++) {
            Due.is("now " + what, x.now(what), 0);
        }
        Due.is("rail 0", x.rail(0, 0), BAD);
        Due.is("fault", x.fault(), 0);
        Due.is("up", x.up(0), 0);
    }

    private static void feed() {
        promise(2, "feed", "int feed(long v)");
        Document.says("Eight bytes come behind THE TAPE, the highest first: how many it has.");
        PowerRails x = new PowerRails();
        Due.is("limit 12", x.feed(0x6C696D6974203132L), 8);
        Due.is("3;", x.feed(0x333B202020202020L), 16);
        Due.is("text", x.text(), 1);
        Due.is("limit", x.rule(0), 123);
        Due.is("a high bit", x.feed(-1L), 8);
        Due.is("text", x.text(), -10);
        Due.is("no token", x.fault(), 1);
        Document.says("FULL: more than 400.");
        for (int n = 8; n <= 400; n += 8) {
            Due.is("feed", x.feed(0x2020202020202020L), n);
        }
        Due.is("one more", x.feed(0x2020202020202020L), FULL);
        Due.is("tape", x.count(4), 400);
        x.end(393);
        Due.is("401 bytes", x.feed(0), FULL);
        x.end(392);
        Due.is("400 bytes", x.feed(0), 400);
    }

    private static void end() {
        promise(3, "end", "int end(int n)");
        Document.says("THE TAPE keeps its first n bytes: how many it had. BAD.");
        PowerRails x = new PowerRails();
        Due.is("none of none", x.end(0), 0);
        x.feed(Due.eight("limit 12", 0));
        Due.is("more than it has", x.end(9), BAD);
        Due.is("below 0", x.end(-1), BAD);
        Due.is("all", x.end(8), 8);
        Due.is("seven", x.end(7), 8);
        x.feed(Due.eight(";       ", 0));
        Due.is("text", x.text(), 1);
        Due.is("limit", x.rule(0), 1);
    }

    private static void textAndFault() {
        promise(4, "text", "int text()");
        Document.says("THE TAPE (empty then) tells all: how many lines; -10 less the place of its FAULT: "
            + "that which was told stays.");
        PowerRails x = Due.of("rail a 1 1;limit 7;");
        Due.is("tape", x.count(4), 0);
        Due.is("refused", Due.tell(x, "limit 8;rail b 1 1;"), -23);
        Due.is("tape", x.count(4), 0);
        Due.is("limit", x.rule(0), 7);
        Due.is("rails", x.rule(3), 1);
        Due.is("lines", Due.tell(x, "limit 8;rail a 2 2;retry 1 1;"), 3);
        Due.is("limit", x.rule(0), 8);
        Due.is("nothing", x.text(), 0);
        Due.is("limit", x.rule(0), 999);
        Due.is("rails", x.rule(3), 0);
        promise(5, "fault", "int fault()");
        Document.says("The FAULT of the latest text(); 0.");
        String[] texts = {"?", "rail", "limit 0;", "limit 1;limit 1;", "rail a 1 1 when (((((((a)))))));",
            "rail a 1 1 when b;", "limit 1;"};
        int[] faults = {1, 2, 3, 4, 5, 6, 0};
        for (int i = 0; i < texts.length; i++) {
            Due.tell(x, texts[i]);
            Due.is("fault of " + texts[i], x.fault(), faults[i]);
            Due.feed(x, "a ");
            Due.is("not of the tape", x.fault(), faults[i]);
            x.end(0);
        }
    }

    private static void rail() {
        promise(6, "rail", "int rail(int r, int what)");
        Document.says("Of a RAIL: 0 LEAST, 1 MOST, 2 fall, 3 draw when GOOD, 4 while it RISES, 5 wait, 6 within, "
            + "7 RAILS in its formula (bits; 256: key). BAD.");
        PowerRails x = Due.of("rail a 3 4 fall 5 draw 16 17 wait 8 within 19 when b | a & (b | key);rail b 1 1 when a;");
        int[] due = {3, 4, 5, 16, 17, 8, 19, 259};
        for (int what = 0; what < due.length; what++) {
            Due.is("rail a, " + what, x.rail(0, what), due[what]);
        }
        Due.is("b's formula", x.rail(1, 7), 1);
        Due.is("what 8", x.rail(0, 8), BAD);
        Due.is("what -1", x.rail(0, -1), BAD);
        Due.is("rail -1", x.rail(-1, 0), BAD);
        Due.is("rail 2", x.rail(2, 0), BAD);
    }

    private static void ruleAndHolds() {
        promise(7, "rule", "int rule(int what)");
        Document.says("0 limit, 1 retry, 2 behind how many TICKS, 3 RAILS. BAD.");
        PowerRails x = Due.of("retry 3 44;limit 555;rail a 1 1;rail b 1 1 when key & (a | b);");
        int[] due = {555, 3, 44, 2};
        for (int what = 0; what < due.length; what++) {
            Due.is("rule " + what, x.rule(what), due[what]);
        }
        Due.is("rule 4", x.rule(4), BAD);
        Due.is("rule -1", x.rule(-1), BAD);
        promise(8, "holds", "int holds(int r, int good)");
        Document.says("Whether the formula of a RAIL holds, if some RAILS are GOOD (bits; 256: THE KEY is on) (1, 0). BAD.");
        int[] sets = {0, 1, 2, 3, 256, 257, 258, 259};
        int[] holds = {0, 0, 0, 0, 0, 1, 1, 1};
        for (int i = 0; i < sets.length; i++) {
            Due.is("holds with " + sets[i], x.holds(1, sets[i]), holds[i]);
        }
        Due.is("not by what is good now", x.now(1), 0);
        Due.is("rail 2", x.holds(2, 0), BAD);
        Due.is("rail -1", x.holds(-1, 0), BAD);
        Due.is("a rail that is not told", x.holds(1, 4), BAD);
        Due.is("bit 9", x.holds(1, 512), BAD);
        Due.is("below 0", x.holds(1, -1), BAD);
    }

    private static void words() {
        promise(9, "words", "int words(int r, int what)");
        Document.says("A RAIL's formula in other words: the least sets of RAILS (and key, 256) of which all must be "
            + "(of 9 bits; none of them within another one): how many (what 0); 10 and i: set i, by rising bits.");
        PowerRails x = Due.of("rail a 1 1 when (a | b) & (c | key) | a & b & c | b;rail b 1 1;rail c 1 1 when a & (a | b);");
        int[] due = {2, 5, 257};
        Due.is("sets of a", x.words(0, 0), due.length);
        for (int i = 0; i < due.length; i++) {
            Due.is("set " + i, x.words(0, 10 + i), due[i]);
        }
        Due.is("sets of b", x.words(1, 0), 1);
        Due.is("key", x.words(1, 10), 256);
        Due.is("sets of c", x.words(2, 0), 1);
        Due.is("a", x.words(2, 10), 1);
        Document.says("BAD: also a set that there is not.");
        Due.is("set 3", x.words(0, 13), BAD);
        Due.is("set 1", x.words(1, 11), BAD);
        Due.is("what 1", x.words(0, 1), BAD);
        Due.is("what 9", x.words(0, 9), BAD);
        Due.is("what -1", x.words(0, -1), BAD);
        Due.is("the greatest what", x.words(0, Integer.MAX_VALUE), BAD);
        Due.is("rail 3", x.words(3, 0), BAD);
    }

    private static void keyAndDead() {
        promise(10, "key", "int key(boolean on)");
        Document.says("THE KEY is turned (on true): whether it was on (1, 0).");
        PowerRails x = Due.of("rail a 1 1;");
        Due.is("on", x.key(true), 0);
        Due.is("on again", x.key(true), 1);
        Due.is("key", x.now(7), 1);
        Due.is("off", x.key(false), 1);
        Due.is("off again", x.key(false), 0);
        Due.is("key", x.now(7), 0);
        Document.says("(What comes of it comes at the TICK.)");
        x.key(true);
        Due.is("a is off", x.is(0, 0), 0);
        x.key(false);
        x.go(1);
        Due.is("nothing came of it", x.count(2), 0);
        x.key(true);
        x.go(1);
        Due.is("a rises", x.is(0, 0), 2);
        promise(11, "dead", "int dead(int r, boolean is)");
        Document.says("A RAIL is DEAD, or not: whether it was. BAD.");
        Due.is("dead", x.dead(0, true), 0);
        Due.is("dead again", x.dead(0, true), 1);
        Due.is("it is", x.is(0, 2), 1);
        Due.is("not dead", x.dead(0, false), 1);
        Due.is("not dead again", x.dead(0, false), 0);
        Due.is("rail 1", x.dead(1, true), BAD);
        Due.is("rail -1", x.dead(-1, true), BAD);
        Due.is("dead ones", x.count(1), 0);
    }

    private static void timeAndGo() {
        promise(12, "time", "int time(int r, int v)");
        Document.says("How long a RAIL takes to rise becomes v (LEAST to MOST): what it was. BAD.");
        PowerRails x = Due.of("rail a 2 5;rail b 1 1;");
        Due.is("to 5", x.time(0, 5), 2);
        Due.is("to 3", x.time(0, 3), 5);
        Due.is("to 1", x.time(0, 1), BAD);
        Due.is("to 6", x.time(0, 6), BAD);
        Due.is("rail 2", x.time(2, 1), BAD);
        Due.is("rail -1", x.time(-1, 1), BAD);
        Due.is("it is", x.is(0, 3), 3);
        Due.is("when", x.when(0, 0), 3);
        promise(13, "go", "int go(int n)");
        Document.says("n TICKS (1 to 999) go: how many TRIPS there were. BAD.");
        Due.is("0 ticks", x.go(0), BAD);
        Due.is("1000 ticks", x.go(1000), BAD);
        Due.is("-1 ticks", x.go(-1), BAD);
        Due.is("tick", x.now(0), 0);
        Due.is("1 tick", x.go(1), 0);
        Due.is("999 ticks", x.go(999), 0);
        Due.is("tick", x.now(0), 1000);
        x = Due.of("rail a 1 1 draw 1 9;limit 8;retry 9 1;");
        x.key(true);
        Due.is("a trip each tick", x.go(5), 5);
        Due.is("till the tries are used up", x.go(999), 5);
        Due.is("none when held for good", x.go(999), 0);
    }

    private static void now() {
        promise(14, "now", "int now(int what)");
        Document.says("Of now: 0 the TICK, 1 RAILS that are GOOD (bits), 2 that RISE, 3 what was drawn at the latest TICK "
            + "that went, as it was looked at for TRIPS (0: none went), 4 TICKS for which all is HELD from here on "
            + "(0: not; NONE: for good), 5 tries left, 6 the greatest that was drawn, 7 THE KEY (1, 0), "
            + "8 TRIPS in all. BAD -9.");
        PowerRails x = Due.of("rail a 1 1 draw 3 8;rail b 3 3 draw 4 6;rail c 1 1 draw 1 9 when a & b;limit 15;retry 1 3;");
        nowIs(x, new int[] {0, 0, 0, 0, 0, 1, 0, 0, 0});
        x.key(true);
        x.go(1);
        nowIs(x, new int[] {1, 0, 3, 14, 0, 1, 14, 1, 0});
        x.go(1);
        nowIs(x, new int[] {2, 1, 2, 9, 0, 1, 14, 1, 0});
        x.go(2);
        nowIs(x, new int[] {4, 0, 0, 16, 2, 0, 16, 1, 1});
        x.go(2);
        nowIs(x, new int[] {6, 0, 0, 0, 0, 0, 16, 1, 1});
        x.go(4);
        nowIs(x, new int[] {10, 0, 0, 16, NONE, 0, 16, 1, 2});
        Due.is("now 9", x.now(9), -9);
        Due.is("now -1", x.now(-1), -9);
    }

    private static void nowIs(PowerRails x, int[] due) {
        for (int what = 0; what < due.length; what++) {
            Due.is("now " + what + " at " + due[0], x.now(what), due[what]);
        }
    }

    private static void is() {
        promise(15, "is", "int is(int r, int what)");
        Document.says("Of a RAIL: 0 what it is (0 to 4), 1 since how many TICKS, 2 whether it is DEAD, "
            + "3 how long it takes, 4 how often it was GOOD. BAD.");
        PowerRails x = Due.of("rail a 2 4 wait 1;rail b 1 1;");
        x.time(0, 3);
        x.key(true);
        x.go(6);
        int[] due = {3, 2, 0, 3, 1};
        for (int what = 0; what < due.length; what++) {
            Due.is("a is " + what, x.is(0, what), due[what]);
        }
        x.dead(0, true);
        x.go(1);
        x.dead(0, false);
        x.go(6);
        Due.is("twice good", x.is(0, 4), 2);
        Due.is("b is good since", x.is(1, 1), 12);
        Due.is("what 5", x.is(0, 5), BAD);
        Due.is("what -1", x.is(0, -1), BAD);
        Due.is("rail 2", x.is(2, 0), BAD);
        Due.is("rail -1", x.is(-1, 0), BAD);
    }

    private static void happened() {
        promise(16, "happened", "int happened(int i, int what)");
        Document.says("HAPPENING i: 0 TICK, 1 RAIL (NONE: a TRIP), 2 what. BAD.");
        PowerRails x = Due.of("rail a 9 9;rail b 1 1 within 1 draw 1 9;limit 5;");
        x.go(3);
        x.key(true);
        x.go(1);
        int[][] due = {{3, 0, 1}, {3, 1, 1}, {3, 0, 2}, {3, 1, 2}, {3, NONE, 6}, {3, 0, 4}, {3, 1, 4}};
        Due.is("happenings", x.count(2), due.length);
        for (int i = 0; i < due.length; i++) {
            for (int what = 0; what < 3; what++) {
                Due.is("happened " + i + ", " + what, x.happened(i, what), due[i][what]);
            }
        }
        Due.is("one behind", x.happened(7, 0), BAD);
        Due.is("-1", x.happened(-1, 0), BAD);
        Due.is("what 3", x.happened(0, 3), BAD);
        Due.is("what -1", x.happened(0, -1), BAD);
    }

    private static void up() {
        promise(17, "up", "int up(int what)");
        Document.says("RAILS that can be UP (what 0), that are in a RING (1), that can not be, "
            + "though none were DEAD (2; bits). BAD.");
        PowerRails x = Due.of("rail a 1 1;rail b 1 1 when a;rail c 1 1 when d & a;rail d 1 1 when c;rail e 1 1 when c | b;");
        Due.is("up", x.up(0), 19);
        Due.is("ring", x.up(1), 12);
        Due.is("never", x.up(2), 12);
        x.dead(1, true);
        x.dead(2, true);
        Due.is("up", x.up(0), 1);
        Due.is("ring", x.up(1), 24);
        Due.is("never", x.up(2), 12);
        Due.is("what 3", x.up(3), BAD);
        Due.is("what -1", x.up(-1), BAD);
    }

    private static void when() {
        promise(18, "when", "int when(int r, int what)");
        Document.says("WHEN a RAIL is GOOD by TIMES (what 0), at the earliest (1: all take LEAST), "
            + "at the latest (2: all take MOST). BAD; NONE: it is not UP.");
        PowerRails x = Due.of("rail a 2 7 wait 1;rail b 1 9 wait 2 when a;rail c 1 1 when c;");
        x.time(0, 4);
        x.time(1, 5);
        int[][] due = {{5, 3, 8}, {12, 6, 19}, {NONE, NONE, NONE}};
        for (int r = 0; r < due.length; r++) {
            for (int what = 0; what < 3; what++) {
                Due.is("when " + r + ", " + what, x.when(r, what), due[r][what]);
            }
        }
        x.dead(0, true);
        Due.is("b without a", x.when(1, 1), NONE);
        Due.is("a, dead", x.when(0, 1), NONE);
        Due.is("what 3", x.when(0, 3), BAD);
        Due.is("what -1", x.when(0, -1), BAD);
        Due.is("rail 3", x.when(3, 0), BAD);
        Due.is("rail -1", x.when(-1, 0), BAD);
    }

    private static void ahead() {
        promise(19, "ahead", "int ahead(int a, int b, int what)");
        Document.says("By ALL TIMES: whether RAIL a is always GOOD ahead of RAIL b (2), at the same TICK or ahead (1), "
            + "else 0 (what 0); the most TICKS by which b can be ahead of a (what 1; below 0: never).");
        PowerRails x = Due.of("rail a 1 3;rail b 3 5;rail c 4 6;rail d 1 4 when a;rail e 1 1 when e;");
        int[][] due = {{0, 1, 1, 0}, {0, 2, 2, -1}, {0, 3, 2, -1}, {1, 0, 0, 4}, {3, 0, 0, 4}, {2, 3, 0, 4}, {3, 2, 0, 3}};
        for (int[] row : due) {
            Due.is(row[0] + " ahead of " + row[1], x.ahead(row[0], row[1], 0), row[2]);
            Due.is(row[0] + " behind " + row[1] + " by", x.ahead(row[0], row[1], 1), row[3]);
        }
        x.time(0, 3);
        Due.is("by all times, not by those told", x.ahead(0, 1, 1), 0);
        Document.says("BAD -1000: also one and the same; STATE -1002: more than 20000 ways; "
            + "NONE -1004: one of both is not UP.");
        Due.is("one and the same", x.ahead(0, 0, 0), -1000);
        Due.is("what 2", x.ahead(0, 1, 2), -1000);
        Due.is("what -1", x.ahead(0, 1, -1), -1000);
        Due.is("rail 5", x.ahead(0, 5, 0), -1000);
        Due.is("rail -1", x.ahead(-1, 0, 0), -1000);
        Due.is("e is not up", x.ahead(0, 4, 0), -1004);
        Due.is("e is not up", x.ahead(4, 0, 1), -1004);
        x = Due.of("rail a 1 9;rail b 1 9;rail c 1 9;rail d 1 9;rail e 1 9;rail f 1 1 when f;");
        Due.is("59049 ways", x.ahead(0, 1, 0), -1002);
        Due.is("and f is not up", x.ahead(0, 5, 0), -1002);
        Due.is("and one and the same", x.ahead(5, 5, 0), -1000);
    }

    private static void drawnAndPeak() {
        promise(20, "drawn", "int drawn(int tick)");
        Document.says("DRAWN by TIMES at a TICK (0 to 999). BAD.");
        PowerRails x = Due.of("rail a 2 4 draw 3 5;rail b 1 2 draw 4 9 wait 1;");
        int[] due = {5, 14, 7};
        for (int t = 0; t < due.length; t++) {
            Due.is("drawn at " + t, x.drawn(t), due[t]);
        }
        Due.is("drawn at 999", x.drawn(999), 7);
        Due.is("1000", x.drawn(1000), BAD);
        Due.is("-1", x.drawn(-1), BAD);
        promise(21, "peak", "int peak(int what)");
        Document.says("PEAK by TIMES (what 0), the first TICK with it (1), by ALL TIMES the greatest (2), the least (3).");
        peakIs(x, new int[] {14, 1, 14, 14});
        x = Due.of("rail a 1 3 draw 1 5;rail b 1 1 draw 1 9 wait 2;");
        peakIs(x, new int[] {10, 2, 14, 10});
        x.time(0, 3);
        peakIs(x, new int[] {14, 2, 14, 10});
        Document.says("BAD; STATE: more than 20000 ways (2, 3); NONE: no RAIL is UP.");
        Due.is("what 4", x.peak(4), BAD);
        Due.is("what -1", x.peak(-1), BAD);
        x.dead(0, true);
        x.dead(1, true);
        peakIs(x, new int[] {NONE, NONE, NONE, NONE});
        x = Due.of("rail a 1 9;rail b 1 9;rail c 1 9;rail d 1 9;rail e 1 9;");
        peakIs(x, new int[] {10, 0, STATE, STATE});
        for (int r = 0; r < 5; r++) {
            x.dead(r, true);
        }
        peakIs(x, new int[] {NONE, NONE, STATE, STATE});
    }

    private static void peakIs(PowerRails x, int[] due) {
        for (int what = 0; what < due.length; what++) {
            Due.is("peak " + what, x.peak(what), due[what]);
        }
    }

    private static void stagger() {
        promise(22, "stagger", "int stagger(int what)");
        Document.says("STAGGER: WHEN the last one is GOOD (what 0); 10 and r: the wait of RAIL r.");
        PowerRails x = Due.of("rail a 1 1 draw 1 5;rail b 1 1 draw 1 5;rail c 1 1 draw 1 5;limit 7;");
        int[] due = {0, 1, 2};
        Due.is("last", x.stagger(0), 3);
        for (int r = 0; r < due.length; r++) {
            Due.is("wait of " + r, x.stagger(10 + r), due[r]);
            Due.is("as told", x.rail(r, 5), 0);
        }
        Document.says("BAD; STATE: more than 6 RAILS; NONE: no waits do, no RAIL is UP.");
        Due.is("what 13", x.stagger(13), BAD);
        Due.is("what 9", x.stagger(9), BAD);
        Due.is("what 1", x.stagger(1), BAD);
        Due.is("what -1", x.stagger(-1), BAD);
        x = Due.of("rail a 1 1;rail b 1 1;rail c 1 1;rail d 1 1;rail e 1 1;rail f 1 1;rail g 1 1 when g;");
        Due.is("seven rails", x.stagger(0), STATE);
        Due.is("seven rails", x.stagger(16), STATE);
        Due.is("and BAD", x.stagger(17), BAD);
        x = Due.of("rail a 1 1 draw 1 5;limit 4;");
        Due.is("no waits do", x.stagger(0), NONE);
        Due.is("no waits do", x.stagger(10), NONE);
        x = Due.of("rail a 1 1 when a;");
        Due.is("none is up", x.stagger(0), NONE);
        Due.is("none is up", x.stagger(10), NONE);
        Due.is("no rails", new PowerRails().stagger(0), NONE);
        Due.is("no such rail", new PowerRails().stagger(10), BAD);
    }

    private static void adopt() {
        promise(23, "adopt", "int adopt()");
        Document.says("Waits become as STAGGER tells: WHEN the last one is GOOD.");
        PowerRails x = Due.of("rail a 1 1 draw 1 5 wait 9;rail b 1 1 draw 1 5 wait 9;rail c 1 1 wait 9 when c;limit 7;");
        Due.is("adopt", x.adopt(), 2);
        int[] due = {0, 1, 0};
        for (int r = 0; r < due.length; r++) {
            Due.is("wait of " + r, x.rail(r, 5), due[r]);
        }
        Due.is("b", x.when(1, 0), 2);
        Document.says("STATE; NONE likewise.");
        x = Due.of("rail a 1 1 draw 1 5 wait 9;limit 4;");
        Due.is("no waits do", x.adopt(), NONE);
        Due.is("a's wait", x.rail(0, 5), 9);
        x = Due.of("rail a 1 1 wait 9 when a;");
        Due.is("none is up", x.adopt(), NONE);
        Due.is("a's wait", x.rail(0, 5), 9);
        x = Due.of("rail a 1 1 wait 9;rail b 1 1;rail c 1 1;rail d 1 1;rail e 1 1;rail f 1 1;rail g 1 1;");
        Due.is("seven rails", x.adopt(), STATE);
        Due.is("a's wait", x.rail(0, 5), 9);
        Document.says("(What goes on goes on.)");
        x = Due.of("rail a 1 1 draw 1 5 wait 9;rail b 1 1 draw 1 5;limit 7;");
        x.key(true);
        x.go(3);
        Due.is("adopt", x.adopt(), 2);
        Due.is("tick", x.now(0), 3);
        Due.is("a waits", x.is(0, 0), 1);
        Due.is("since", x.is(0, 1), 3);
        Due.is("b is good", x.now(1), 2);
        x.go(1);
        Due.is("a rises", x.is(0, 0), 2);
    }

    private static void down() {
        promise(24, "down", "int down(int some)");
        Document.says("DOWN by a set of RAILS that die (bits): these (bits). BAD.");
        PowerRails x = Due.of("rail a 1 1;rail b 1 1 when a;rail c 1 1 when b | d;rail d 1 1;");
        int[] due = {0, 3, 2, 3, 4, 7, 6, 7, 8};
        for (int some = 0; some < due.length; some++) {
            Due.is("down by " + some, x.down(some), due[some]);
        }
        Due.is("a, d", x.down(9), 15);
        Due.is("a rail that is not told", x.down(16), BAD);
        Due.is("below 0", x.down(-1), BAD);
        Due.is("key", x.down(256), BAD);
        Due.is("none is dead of it", x.count(1), 0);
    }

    private static void cut() {
        promise(25, "cut", "int cut(int r, int what)");
        Document.says("CUT of a RAIL: how many (what 0), these (1, bits). BAD; NONE: no others' death does that; "
            + "STATE: it is not UP.");
        PowerRails x = Due.of("rail a 1 1;rail b 1 1 when a | key;rail c 1 1 when a & d | b & d | a & b;rail d 1 1;"
            + "rail e 1 1 when e;");
        Due.is("how many", x.cut(2, 0), 2);
        Due.is("these", x.cut(2, 1), 3);
        Due.is("none", x.cut(1, 0), NONE);
        Due.is("none", x.cut(1, 1), NONE);
        Due.is("not up", x.cut(4, 0), STATE);
        x.dead(1, true);
        Due.is("b dead: how many", x.cut(2, 0), 1);
        Due.is("b dead: these", x.cut(2, 1), 1);
        Due.is("b is not up", x.cut(1, 0), STATE);
        Due.is("what 2", x.cut(2, 2), BAD);
        Due.is("what -1", x.cut(2, -1), BAD);
        Due.is("rail 5", x.cut(5, 0), BAD);
        Due.is("rail -1", x.cut(-1, 0), BAD);
        Due.is("BAD and STATE", x.cut(4, 2), BAD);
    }

    private static void needAndMust() {
        promise(26, "need", "int need(int r, int what)");
        Document.says("NEED of a RAIL: how many (what 0), these (1, bits). BAD; STATE: it is not UP.");
        PowerRails x = Due.of("rail a 1 1;rail b 1 1 when a;rail c 1 1 when b | d;rail d 1 1;rail e 1 1 when c & (a | d);"
            + "rail f 1 1 when f;");
        Due.is("how many", x.need(4, 0), 3);
        Due.is("these", x.need(4, 1), 28);
        Due.is("itself", x.need(0, 1), 1);
        Due.is("not up", x.need(5, 0), STATE);
        x.dead(3, true);
        Due.is("without d", x.need(4, 0), 4);
        Due.is("without d", x.need(4, 1), 23);
        Due.is("what 2", x.need(4, 2), BAD);
        Due.is("what -1", x.need(4, -1), BAD);
        Due.is("rail 6", x.need(6, 0), BAD);
        Due.is("BAD and STATE", x.need(5, 2), BAD);
        x.dead(3, false);
        promise(27, "must", "int must(int r)");
        Document.says("RAILS without which a RAIL is never UP (bits; itself too). BAD; STATE: it is not UP.");
        int[] due = {1, 3, 4, 8, 20, STATE, BAD};
        for (int r = 0; r < due.length; r++) {
            Due.is("must " + r, x.must(r), due[r]);
        }
        Due.is("must -1", x.must(-1), BAD);
        x.dead(3, true);
        Due.is("without d", x.must(4), 23);
        Due.is("d", x.must(3), STATE);
    }

    private static void seen() {
        promise(28, "seen", "int seen(int good)");
        Document.says("SEEN: these explain it (bits, 256). BAD.");
        PowerRails x = Due.of("rail a 1 1;rail b 1 1 when a;rail c 1 1 when a;");
        int[] due = {1, 0, 0, 4, 0, 2, 0, 256};
        for (int good = 0; good < due.length; good++) {
            Due.is("seen " + good, x.seen(good), due[good]);
        }
        Due.is("a rail that is not told", x.seen(8), BAD);
        Due.is("key", x.seen(256), BAD);
        Due.is("below 0", x.seen(-1), BAD);
        Document.says("(Those that are DEAD by hand do not count.)");
        x.dead(0, true);
        for (int good = 0; good < due.length; good++) {
            Due.is("a dead, seen " + good, x.seen(good), due[good]);
        }
    }

    private static void sheetAndLay() {
        promise(29, "sheet", "int sheet(int k, int lane, int n)");
        Document.says("A SHEET is a new row of CELLS 0: 1. BAD: also n above 40; -10 - 4.");
        PowerRails x = new PowerRails();
        Due.is("sheet", x.sheet(0, 2, 3), 1);
        Due.is("cells 0", x.measured(0, 2, 0, 3, 0), 3);
        x.lay(0, 1, 7);
        Due.is("not 0", x.measured(0, 2, 0, 3, 2), 7);
        Due.is("41 cells", x.sheet(0, 2, 41), BAD);
        Due.is("-1 cells", x.sheet(0, 2, -1), -14);
        Due.is("-1 cells of no lane", x.sheet(0, 3, -1), BAD);
        Due.is("-1 cells of no sheet", x.sheet(4, 0, -1), BAD);
        Due.is("as it was", x.measured(0, 2, 0, 3, 2), 7);
        Due.is("a new row", x.sheet(0, 2, 3), 1);
        Due.is("cells 0", x.measured(0, 2, 0, 3, 0), 3);
        promise(30, "lay", "int lay(int k, int i, int v)");
        Document.says("CELL i of a SHEET becomes v (its lowest bits): 1. BAD: k; -10 less the FAULT: NULL, INDEX.");
        x.sheet(1, 0, 2);
        Due.is("lay", x.lay(1, 1, 0x1234567F), 1);
        Due.is("its lowest bits", x.measured(1, 0, 1, 1, 2), 127);
        Due.is("sheet 4", x.lay(4, 0, 0), BAD);
        Due.is("sheet -1", x.lay(-1, 0, 0), BAD);
        Due.is("nothing", x.lay(2, 0, 0), -11);
        Due.is("nothing, nor a cell", x.lay(2, -1, 0), -11);
        Due.is("cell 2", x.lay(1, 2, 0), -12);
        Due.is("cell -1", x.lay(1, -1, 0), -12);
        Due.is("as it was", x.measured(1, 0, 1, 1, 2), 127);
    }

    private static void measured() {
        promise(31, "measured", "int measured(int k, int lane, int f, int n, int what)");
        Document.says("What was measured is read of a SHEET taken as of a lane, of TICK t in CELL f + t, "
            + "n (0 to 40) TICKS from 0 on: how many are what is DRAWN by TIMES (what 0), "
            + "the first that is not (1; NONE), by how much they differ, without signs, summed (2).");
        PowerRails x = Due.of("rail a 2 3 draw 3 5;rail b 1 1 draw 4 9 wait 1;");
        x.sheet(3, 1, 8);
        int[] row = {9, 9, 5, 12, 7, 9, 7, 0};
        for (int i = 0; i < row.length; i++) {
            x.lay(3, i, row[i]);
        }
        // Drawn: 5, 14, 7, 7, 7, ..
        int[][] due = {{2, 5, 3, 1, 4}, {2, 1, 1, NONE, 0}, {2, 0, 0, NONE, 0}, {0, 2, 0, 0, 9}, {6, 2, 0, 0, 16}};
        for (int[] d : due) {
            for (int what = 0; what < 3; what++) {
                Due.is("measured from " + d[0] + ", " + d[1] + ", " + what, x.measured(3, 1, d[0], d[1], what), d[2 + what]);
            }
        }
        x.time(0, 3);
        Due.is("by times", x.measured(3, 1, 2, 3, 2), 4);
        x.sheet(3, 1, 40);
        Due.is("40 ticks", x.measured(3, 1, 0, 40, 1), 0);
        Due.is("40 ticks", x.measured(3, 1, 0, 40, 0), 0);
    }

    private static void measuredRefused() {
        Document.says("BAD: k, lane, n, what; -10 less the FAULT: NULL, CAST, then CELL by CELL INDEX; "
            + "-20 less t: CELL f + t is below 0 or above 9999; the first met.");
        PowerRails x = Due.of("rail a 2 3 draw 3 5;");
        Due.is("sheet 4", x.measured(4, 0, 0, 0, 0), BAD);
        Due.is("sheet -1", x.measured(-1, 0, 0, 0, 0), BAD);
        Due.is("lane 3", x.measured(0, 3, 0, 0, 0), BAD);
        Due.is("lane -1", x.measured(0, -1, 0, 0, 0), BAD);
        Due.is("n 41", x.measured(0, 0, 0, 41, 0), BAD);
        Due.is("n -1", x.measured(0, 0, 0, -1, 0), BAD);
        Due.is("what 3", x.measured(0, 0, 0, 0, 3), BAD);
        Due.is("what -1", x.measured(0, 0, 0, 0, -1), BAD);
        Due.is("nothing", x.measured(0, 0, 0, 0, 0), -11);
        x.sheet(0, 2, 3);
        Due.is("cast ahead of index", x.measured(0, 1, -5, 3, 0), -13);
        Due.is("index", x.measured(0, 2, -1, 3, 0), -12);
        Due.is("index", x.measured(0, 2, 1, 3, 0), -12);
        Due.is("no cell is read", x.measured(0, 2, -5, 0, 0), 0);
        Due.is("the greatest f", x.measured(0, 2, Integer.MAX_VALUE, 40, 0), -12);
        Due.is("the least f", x.measured(0, 2, Integer.MIN_VALUE, 40, 0), -12);
        x.lay(0, 1, 9999);
        Due.is("9999", x.measured(0, 2, 1, 1, 2), 9994);
        x.lay(0, 1, 10000);
        Due.is("10000 at t 0", x.measured(0, 2, 1, 1, 0), -20);
        Due.is("10000 at t 1, ahead of index", x.measured(0, 2, 0, 9, 0), -21);
        x.lay(0, 1, -1);
        Due.is("-1 at t 1", x.measured(0, 2, 0, 3, 1), -21);
        x.lay(0, 1, 0);
        x.lay(0, 2, -1);
        Due.is("-1 at t 2", x.measured(0, 2, 0, 3, 2), -22);
    }

    private static void count() {
        promise(32, "count", "int count(int what)");
        Document.says("How many: 0 RAILS, 1 DEAD ones, 2 HAPPENINGS, 3 ways of ALL TIMES (SPENT: more than 20000), "
            + "4 bytes on THE TAPE, 5 CELLS of SHEET 0 (NONE: nothing). BAD.");
        PowerRails x = Due.of("rail a 1 3;rail b 2 5;rail c 1 1 when c;");
        Due.is("cells", x.count(5), NONE);
        x.dead(0, true);
        x.dead(2, true);
        x.key(true);
        x.go(1);
        x.feed(0);
        x.sheet(0, 1, 7);
        x.sheet(1, 1, 9);
        int[] due = {3, 2, 4, 12, 8, 7};
        for (int what = 0; what < due.length; what++) {
            Due.is("count " + what, x.count(what), due[what]);
        }
        Due.is("count 6", x.count(6), BAD);
        Due.is("count -1", x.count(-1), BAD);
        x = Due.of("rail a 1 9;rail b 1 9;rail c 1 9;rail d 1 7;rail e 1 4;");
        Due.is("20412 ways", x.count(3), SPENT);
    }
}
