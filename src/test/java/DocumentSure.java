/** The terms under 3 of the document, sentence by sentence. */
final class DocumentSure {
    private static final int BAD = PowerRails.BAD;
    private static final int NONE = PowerRails.NONE;
    private static final int STATE = PowerRails.STATE;

    private DocumentSure() {
    }

    static void all() {
        upAndRing();
        when();
        allTimes();
        drawnAndPeak();
        stagger();
        downAndCut();
        needAndSeen();
        sheets();
        faults();
    }

    private static void upAndRing() {
        Document.says("3 SURE (by formulas alone, THE KEY on, no limit, no within, waits as told): what can be UP: "
            + "RAILS that are not DEAD and whose formula holds, if those are GOOD that came ahead, again and again.");
        PowerRails x = Due.of("rail a 3 3 wait 2 within 1 draw 9 9 when b | c;rail b 1 1 when d;rail c 1 1 when key;"
            + "rail d 1 1 when a & c;rail e 1 1 when e;limit 1;");
        Due.is("key", x.now(7), 0);
        Due.is("up", x.up(0), 15);
        Due.is("a", x.when(0, 0), 6);
        Due.is("b", x.when(1, 0), 8);
        x.dead(0, true);
        Due.is("up without a", x.up(0), 4);
        Document.says("A RING: RAILS that are not DEAD and not UP.");
        Due.is("ring without a", x.up(1), 26);
        x.dead(0, false);
        Due.is("ring", x.up(1), 16);
        Document.says("(THE KEY on, from OFF.)");
        x = Due.of("rail a 1 1 when key | b;rail b 1 1 when a;rail c 1 1 when c | d;rail d 1 1 when c;");
        Due.is("from off", x.up(0), 3);
        x.key(true);
        x.go(9);
        Due.is("as it goes", x.now(1), 3);
        x.key(false);
        x.dead(0, true);
        x.go(3);
        x.dead(0, false);
        x.go(9);
        Due.is("as it is now", x.now(1), 0);
        Due.is("from off, the key on", x.up(0), 3);
    }

    private static void when() {
        Document.says("WHEN a RAIL is GOOD: 0 TICKS is when THE KEY is turned on; of an UP one by TIMES: the TICK at which "
            + "its formula holds first, its wait, and how long it takes, summed; &: the later, |: the earlier one.");
        PowerRails x = Due.of("rail a 2 4 wait 1;rail b 5 6;rail c 1 1 wait 2 when a & b;rail d 1 1 wait 3 when a | b;"
            + "rail e 1 1 when e;rail f 2 2 when (e | a) & key;");
        int[] due = {3, 5, 8, 7, NONE, 5};
        for (int r = 0; r < due.length; r++) {
            Due.is("when " + r, x.when(r, 0), due[r]);
        }
        x.time(0, 4);
        x.time(1, 6);
        due = new int[] {5, 6, 9, 9, NONE, 7};
        for (int r = 0; r < due.length; r++) {
            Due.is("when " + r, x.when(r, 0), due[r]);
        }
        x.go(7);
        x.key(true);
        for (int t = 0; t <= 9; t++) {
            x.go(1);
            for (int r = 0; r < due.length; r++) {
                Due.is(r + " is good at " + t, (x.now(1) >> r) & 1, due[r] != NONE && t >= due[r] ? 1 : 0);
            }
        }
    }

    private static void allTimes() {
        Document.says("ALL TIMES: all ways in which RAILS take from LEAST to MOST, each by itself (20000 ways at most).");
        PowerRails x = Due.of("rail a 1 3;rail b 2 3;rail c 4 4;rail d 5 9;");
        Due.is("ways", x.count(3), 30);
        Due.is("a behind b", x.ahead(0, 1, 1), 1);
        Due.is("b behind a", x.ahead(1, 0, 1), 2);
        Due.is("d behind a", x.ahead(3, 0, 1), 8);
        x = Due.of("rail a 1 8;rail b 1 5;rail c 1 5;rail d 1 5;rail e 1 5;rail f 1 4;");
        Due.is("20000 ways", x.count(3), 20000);
        Due.is("a behind b", x.ahead(0, 1, 1), 7);
        x = Due.of("rail a 1 9;rail b 1 9;rail c 1 9;rail d 1 7;rail e 1 4;");
        Due.is("20412 ways", x.count(3), PowerRails.SPENT);
        Due.is("a behind b", x.ahead(0, 1, 1), -1002);
        Due.is("peak", x.peak(2), STATE);
        Due.is("by times", x.peak(0), 10);
    }

    private static void drawnAndPeak() {
        Document.says("DRAWN by TIMES at a TICK: of those that are GOOD, that RISE by then.");
        PowerRails x = Due.of("rail a 2 3 draw 10 20 wait 1;rail b 1 1 draw 4 7 when a;rail c 1 1 draw 99 99 when c;"
            + "rail d 1 1 draw 50 50;");
        x.dead(3, true);
        int[] due = {0, 20, 20, 17, 14, 14};
        for (int t = 0; t < due.length; t++) {
            Due.is("drawn at " + t, x.drawn(t), due[t]);
        }
        x.time(0, 3);
        Due.is("by times", x.drawn(3), 20);
        Due.is("in the end", x.drawn(999), 14);
        Document.says("PEAK: the greatest.");
        Due.is("peak", x.peak(0), 20);
        Due.is("first tick with it", x.peak(1), 1);
        x.dead(3, false);
        Due.is("peak", x.peak(0), 70);
    }

    private static void stagger() {
        Document.says("STAGGER: of all waits from 0 to 3 of up to 6 RAILS (all RAILS there are; TIMES as they are)");
        PowerRails x = Due.of("rail a 3 4 draw 1 5;rail b 1 1 draw 1 5;limit 6;");
        Due.is("last", x.stagger(0), 4);
        Due.is("b behind a", x.stagger(11), 3);
        x.time(0, 4);
        Due.is("a behind b", x.stagger(10), 1);
        Due.is("last", x.stagger(0), 5);
        x = Due.of("rail a 4 4 draw 1 5;rail b 4 4 draw 1 5;limit 6;");
        Due.is("a wait of 4 is none", x.stagger(0), NONE);
        x = Due.of("rail a 1 1;rail b 1 1;rail c 1 1;rail d 1 1;rail e 1 1;rail f 1 1 when e;");
        Due.is("six", x.stagger(0), 2);
        x = Due.of("rail a 1 1;rail b 1 1;rail c 1 1;rail d 1 1;rail e 1 1;rail f 1 1;rail g 1 1;");
        Due.is("seven", x.stagger(0), STATE);
        Document.says("those by which PEAK is no more than the limit and the last UP one is GOOD soonest;");
        x = Due.of("rail a 1 1 draw 2 5;rail b 1 1 draw 2 5 when a;rail c 1 1 draw 2 5;rail d 1 1 when d;limit 9;");
        Due.is("last", x.stagger(0), 3);
        x = Due.of("rail a 1 1 draw 2 5;rail b 1 1 draw 2 5 when a;rail c 1 1 draw 2 5;rail d 1 1 when d;limit 10;");
        Due.is("last", x.stagger(0), 2);
        Document.says("of several the least row (RAIL 0 first).");
        x = Due.of("rail a 1 1 draw 2 5 wait 9;rail b 1 1 draw 2 5 wait 9;rail c 1 1 wait 9 when c;limit 9;");
        int[] due = {0, 1, 0};
        for (int r = 0; r < due.length; r++) {
            Due.is("wait of " + r, x.stagger(10 + r), due[r]);
        }
    }

    private static void downAndCut() {
        Document.says("DOWN by DEAD ones: RAILS that are UP without them and not with them "
            + "(those that are DEAD by hand count in both).");
        PowerRails x = Due.of("rail a 1 1;rail b 1 1;rail c 1 1 when a | b;rail d 1 1 when c & a;rail e 1 1 when e;");
        Due.is("a", x.down(1), 9);
        Due.is("b", x.down(2), 2);
        Due.is("e is not up anyhow", x.down(16), 0);
        x.dead(1, true);
        Due.is("a, b dead by hand", x.down(1), 13);
        Due.is("b is dead anyhow", x.down(2), 0);
        x.dead(1, false);
        Document.says("CUT of a RAIL: the fewest RAILS (not itself) by whose death it is not UP; "
            + "of several the least bits.");
        Due.is("cut of c", x.cut(2, 1), 3);
        Due.is("cut of d: a, not c", x.cut(3, 1), 1);
        Due.is("how many", x.cut(3, 0), 1);
        Due.is("none but itself", x.cut(0, 1), NONE);
        x.dead(0, true);
        Due.is("cut of c, a dead by hand", x.cut(2, 1), 2);
    }

    private static void needAndSeen() {
        Document.says("NEED: the fewest RAILS that must not be DEAD (itself among them) so that it is UP "
            + "though all others are; likewise.");
        PowerRails x = Due.of("rail a 1 1;rail b 1 1;rail c 1 1 when a | b;rail d 1 1 when c & (b | a & c);");
        Due.is("need of a", x.need(0, 1), 1);
        Due.is("need of c: a, not b", x.need(2, 1), 5);
        Due.is("need of d", x.need(3, 1), 13);
        Due.is("how many", x.need(3, 0), 3);
        x.dead(0, true);
        Due.is("need of d without a", x.need(3, 1), 14);
        Document.says("SEEN: a set of RAILS that are GOOD in the end (THE KEY on): RAILS of which one alone being DEAD "
            + "explains it (bits; 256: none being DEAD does).");
        x = Due.of("rail a 1 1;rail b 1 1 when a;rail c 1 1 when a;rail d 1 1 when b & c;rail e 1 1 when e;");
        Due.is("all that can be", x.seen(15), 256 | 16);
        Due.is("not d", x.seen(7), 8);
        Due.is("not b, d", x.seen(5), 2);
        Due.is("nothing", x.seen(0), 1);
        Due.is("none explains it", x.seen(8), 0);
        Due.is("the ring", x.seen(31), 0);
        x = Due.of("rail a 1 1 when b & key;rail b 1 1 when a | c;rail c 1 1 when b;");
        Due.is("all explain it", x.seen(0), 256 | 7);
    }

    private static void sheets() {
        Document.says("SHEETS 0 to 3 are rows of BYTES (lane 0), SHORTS (1), INTS (2) with 0 to 40 CELLS, "
            + "or nothing (at first).");
        PowerRails x = Due.of("rail a 1 1;");
        Due.is("nothing at first", x.count(5), NONE);
        for (int k = 0; k <= 3; k++) {
            Due.is("nothing", x.lay(k, 0, 0), -11);
            for (int lane = 0; lane <= 2; lane++) {
                Due.is("40 cells", x.sheet(k, lane, 40), 1);
                Due.is("the last cell", x.lay(k, 39, 0), 1);
                Due.is("no cell", x.sheet(k, lane, 0), 1);
                Due.is("a cell of none", x.lay(k, 0, 0), -12);
            }
        }
        Due.is("sheet -1", x.sheet(-1, 0, 1), BAD);
        Due.is("sheet 4", x.sheet(4, 0, 1), BAD);
        Due.is("lane -1", x.sheet(0, -1, 1), BAD);
        Due.is("lane 3", x.sheet(0, 3, 1), BAD);
        Due.is("41 cells", x.sheet(0, 0, 41), BAD);
        int[] gaps = {42, 298, 65834};
        int[] laid = {44, 300, 65836};
        for (int lane = 0; lane <= 2; lane++) {
            x.sheet(0, lane, 1);
            for (int i = 0; i < laid.length; i++) {
                x.lay(0, 0, laid[i]);
                boolean wide = lane == 2 || lane == 1 && laid[i] < 32768;
                int due = wide ? gaps[i] : lane == 0 ? 42 : 298;
                Due.is("lane " + lane + " of " + laid[i], x.measured(0, lane, 0, 1, 2), due > 9997 ? -20 : due);
            }
        }
    }

    private static void faults() {
        Document.says("A FAULT is what the machine finds: 1 NULL (nothing), 2 INDEX, 3 CAST (another lane), "
            + "4 SIZE (below 0).");
        PowerRails x = Due.of("rail a 1 1;");
        Due.is("null", x.measured(0, 0, 0, 0, 0), -11);
        x.sheet(0, 1, 2);
        Due.is("index", x.measured(0, 1, 1, 2, 0), -12);
        Due.is("index", x.lay(0, 2, 0), -12);
        Due.is("index", x.lay(0, -1, 0), -12);
        Due.is("cast", x.measured(0, 0, 0, 0, 0), -13);
        Due.is("cast", x.measured(0, 2, 0, 0, 0), -13);
        Due.is("size", x.sheet(0, 1, -1), -14);
        Due.is("size", x.sheet(0, 1, Integer.MIN_VALUE), -14);
        Due.is("the row that was there", x.count(5), 2);
    }
}
