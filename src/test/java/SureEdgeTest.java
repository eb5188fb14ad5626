/** The boundary cases of the terms under 3 and of promises 17 to 23, each sentence by itself. */
public final class SureEdgeTest {
    private static final int BAD = PowerRails.BAD, STATE = PowerRails.STATE, NONE = PowerRails.NONE;
    private static final int[] FAR = {Integer.MIN_VALUE, Integer.MAX_VALUE};
    /** 8 * 4 * 5 * 5 * 5 * 5. */
    private static final String WAYS_20000 = "rail a 1 8;rail b 1 4;rail c 1 5;rail d 1 5;rail e 1 5;rail f 1 5;";
    /** 9 * 8 * 8 * 7 * 5, the next that there can be. */
    private static final String WAYS_20160 = "rail a 1 9;rail b 1 8;rail c 1 8;rail d 1 7;rail e 1 5;";

    public static void main(String[] args) {
        whatCanBeUp();
        ring();
        noneUp();
        formulasAlone();
        upRefuses();
        whenSummed();
        laterAndEarlier();
        whenByTimes();
        whenNone();
        whenRefuses();
        waysAtMost();
        theLastOf20000();
        waysCountAllRails();
        alwaysAhead();
        mostTicksAhead();
        aheadByAllThatBearOnIt();
        aheadOfDeadSources();
        aheadRefuses();
        aheadFirstThatFits();
        drawnTicks();
        drawnOfWhom();
        peakFirstTick();
        peakOfNothingDrawn();
        peakByAllTimes();
        peakRefuses();
        waitsToThree();
        noMoreThanTheLimit();
        soonest();
        leastRow();
        timesAsTheyAre();
        sixRails();
        staggerRefuses();
        staggerNone();
        adoptSetsWaits();
        adoptRefused();
        whatGoesOn();
        Due.close();
    }

    private static void whatCanBeUp() {
        Due.says("what can be UP: RAILS that are not DEAD and whose formula holds, if those are GOOD that came ahead");
        Due.is("a chain, told backwards", Due.of("rail a 1 1 when b;rail b 1 1 when c;rail c 1 1 when d;"
            + "rail d 1 1 when e;rail e 1 1 when f;rail f 1 1 when g;rail g 1 1 when h;rail h 1 1;").up(0), 255);
        Due.is("by itself", Due.of("rail a 1 1 when a;").up(0), 0);
        Due.is("by itself or the key", Due.of("rail a 1 1 when a | key;").up(0), 1);
        Due.is("by itself and the key", Due.of("rail a 1 1 when a & key;").up(0), 0);
        PowerRails x = Due.of("rail a 1 1;rail b 1 1 when a;");
        x.dead(0, true);
        Due.is("without a", x.up(0), 0);
        x.dead(0, false);
        x.dead(1, true);
        Due.is("without b", x.up(0), 1);
    }

    private static void ring() {
        Due.says("A RING: RAILS that are not DEAD and not UP.");
        PowerRails x = Due.of("rail a 1 1 when b;rail b 1 1 when a;rail c 1 1 when a;rail d 1 1;");
        Due.is("a, b, and c behind them", x.up(1), 7);
        x.dead(0, true);
        Due.is("not a, which is dead", x.up(1), 6);
        Due.is("that can not be, though none were dead", x.up(2), 7);
        x.dead(3, true);
        Due.is("not d, which is dead", x.up(1), 6);
        Due.is("d could be", x.up(2), 7);
        PowerRails y = Due.of("rail a 1 1;rail b 1 1 when a;");
        y.dead(0, true);
        Due.is("b waits for a dead one", y.up(1), 2);
        Due.is("but could be", y.up(2), 0);
    }

    private static void noneUp() {
        Due.says("RAILS that can be UP (what 0), that are in a RING (1), that can not be, though none were DEAD (2; bits)");
        PowerRails x = new PowerRails();
        PowerRails y = Due.of("rail a 1 1;rail b 1 1;");
        y.dead(0, true);
        y.dead(1, true);
        for (int what = 0; what <= 2; what++) {
            Due.is("of no rails " + what, x.up(what), 0);
            Due.is("of dead rails " + what, y.up(what), 0);
        }
    }

    private static void formulasAlone() {
        Due.says("SURE (by formulas alone, THE KEY on, no limit, no within, waits as told)");
        PowerRails x = Due.of("rail a 9 9 wait 9 within 1 draw 99 99;rail b 1 1 when a;limit 1;");
        for (int turn = 0; turn < 2; turn++) {
            Due.is("up", x.up(0), 3);
            Due.is("when", x.when(1, 0), 19);
            Due.is("peak", x.peak(0), 101);
            x.key(true);
            Due.is("trips, and is held for good then", x.go(9), 1 - turn);
        }
    }

    private static void upRefuses() {
        Due.says("up: BAD.");
        PowerRails x = Due.of("rail a 1 1;");
        for (int what : new int[] {-1, 3, 4, Integer.MIN_VALUE, Integer.MAX_VALUE}) {
            Due.is("up " + what, x.up(what), BAD);
            Due.is("up of none " + what, new PowerRails().up(what), BAD);
        }
    }

    private static void whenSummed() {
        Due.says("the TICK at which its formula holds first, its wait, and how long it takes, summed");
        Due.is("the least", Due.of("rail a 1 1;").when(0, 0), 1);
        Due.is("wait and rise", Due.of("rail a 9 9 wait 9;").when(0, 0), 18);
        StringBuilder s = new StringBuilder("rail a 9 9 wait 9;");
        for (char c = 'b'; c <= 'h'; c++) {
            s.append("rail ").append(c).append(" 9 9 wait 9 when ").append((char) (c - 1)).append(';');
        }
        PowerRails x = Due.of(s.toString());
        for (int r = 0; r < 8; r++) {
            for (int what = 0; what <= 2; what++) {
                Due.is("rail " + r + " what " + what, x.when(r, what), 18 * (r + 1));
            }
        }
    }

    private static void laterAndEarlier() {
        Due.says("&: the later, |: the earlier one");
        String two = "rail a 2 2;rail b 5 5;rail c 1 1 when c;rail d 1 1 when ";
        String[] formulas = {"a&b", "a|b", "a&b|a", "(a|b)&b", "key|b", "key&b", "a|c", "a&c", "c", "(a&c)|b", "d|b", "d&b"};
        int[] due = {6, 3, 3, 6, 1, 6, 3, NONE, NONE, 6, 6, NONE};
        for (int i = 0; i < formulas.length; i++) {
            Due.is("when " + formulas[i], Due.of(two + formulas[i] + ";").when(3, 0), due[i]);
        }
    }

    private static void whenByTimes() {
        Due.says("WHEN a RAIL is GOOD by TIMES (what 0), at the earliest (1: all take LEAST), at the latest (2: all take MOST)");
        PowerRails x = Due.of("rail a 2 7;rail b 3 8 when a;");
        x.time(0, 4);
        x.time(1, 5);
        Due.is("by times", x.when(1, 0), 9);
        Due.is("earliest", x.when(1, 1), 5);
        Due.is("latest", x.when(1, 2), 15);
        x.key(true);
        x.go(100);
        Due.is("from when the key is turned on", x.when(1, 0), 9);
    }

    private static void whenNone() {
        Due.says("when: NONE: it is not UP.");
        PowerRails x = Due.of("rail a 1 1;rail b 1 1 when a;rail c 1 1 when c;");
        x.dead(0, true);
        for (int what = 0; what <= 2; what++) {
            Due.is("dead " + what, x.when(0, what), NONE);
            Due.is("behind a dead one " + what, x.when(1, what), NONE);
            Due.is("in a ring " + what, x.when(2, what), NONE);
        }
        x.dead(0, false);
        Due.is("no more dead", x.when(1, 0), 2);
    }

    private static void whenRefuses() {
        Due.says("when: BAD.");
        PowerRails x = Due.of("rail a 1 1;rail b 1 1 when b;");
        for (int what : new int[] {-1, 3, Integer.MIN_VALUE, Integer.MAX_VALUE}) {
            Due.is("what " + what, x.when(0, what), BAD);
            Due.is("what of one that is not up " + what, x.when(1, what), BAD);
            Due.is("rail " + what, x.when(what, 0), BAD);
        }
        Due.is("rail 2", x.when(2, 0), BAD);
    }

    private static void waysAtMost() {
        Due.says("ALL TIMES: all ways in which RAILS take from LEAST to MOST, each by itself (20000 ways at most)");
        PowerRails x = Due.of(WAYS_20000);
        Due.is("20000", x.count(3), 20000);
        Due.is("ahead", x.ahead(0, 1, 1), 7);
        Due.is("ahead the other way", x.ahead(1, 0, 1), 3);
        Due.is("greatest", x.peak(2), 12);
        Due.is("least", x.peak(3), 12);
        PowerRails y = Due.of(WAYS_20160);
        Due.is("20160", y.count(3), PowerRails.SPENT);
        Due.is("no ahead", y.ahead(0, 1, 1), -1002);
        Due.is("no greatest", y.peak(2), STATE);
        Due.is("no least", y.peak(3), STATE);
        Due.is("by times", y.peak(0), 10);
        Due.is("its tick", y.peak(1), 0);
        Due.is("the most ways there can be", Due.of("rail a 1 9;rail b 1 9;rail c 1 9;rail d 1 9;rail e 1 9;rail f 1 9;"
            + "rail g 1 9;rail h 1 9;").count(3), PowerRails.SPENT);
        Due.is("one way", Due.of("rail a 9 9;rail b 1 1;").count(3), 1);
        Due.is("of no rails", new PowerRails().count(3), 1);
    }

    /** What only the way has in which all take MOST, and what only that has in which all take LEAST. */
    private static void theLastOf20000() {
        Due.says("ALL TIMES: all ways .. (20000 ways at most)");
        PowerRails x = Due.of("rail a 1 8;rail b 1 4 when a;rail c 1 5 when b;rail d 1 5 when c;rail e 1 5 when d;"
            + "rail f 1 5 when e;rail g 1 1;");
        Due.is("ways", x.count(3), 20000);
        Due.is("all take most", x.ahead(5, 6, 1), 31);
        Due.is("all take least", x.ahead(6, 5, 1), -5);
        // At tick 26 h rises; e does by then only if a to e take most, f only if it takes most.
        PowerRails y = Due.of("rail a 1 8 draw 0 0;rail b 1 4 draw 0 0 when a;rail c 1 5 draw 0 0 when b;"
            + "rail d 1 5 draw 0 0 when c;rail e 1 5 draw 0 9 when d;rail f 1 5 wait 5 draw 0 9 when g;"
            + "rail g 9 9 wait 8 draw 0 0;rail h 1 1 wait 9 draw 0 9 when g;");
        Due.is("ways of another", y.count(3), 20000);
        Due.is("by least times", y.peak(0), 9);
        Due.is("the least", y.peak(3), 9);
        Due.is("the greatest", y.peak(2), 27);
        Due.tell(y, "rail a 1 8 draw 0 0;rail b 1 4 draw 0 0 when a;rail c 1 5 draw 0 0 when b;"
            + "rail d 1 5 draw 0 0 when c;rail e 1 5 draw 9 0 when d;rail f 1 5 wait 5 draw 9 0 when g;"
            + "rail g 9 9 wait 8 draw 0 0;rail h 1 1 wait 9 draw 0 9 when g;");
        Due.is("the greatest of a third", y.peak(2), 27);
        Due.is("the least of a third", y.peak(3), 18);
    }

    private static void waysCountAllRails() {
        Due.says("ALL TIMES: all ways in which RAILS take from LEAST to MOST");
        PowerRails x = Due.of(WAYS_20160);
        for (int r = 0; r < 3; r++) {
            x.dead(r, true);
        }
        Due.is("dead ones too", x.count(3), PowerRails.SPENT);
        Due.is("ahead", x.ahead(3, 4, 0), -1002);
        x.time(0, 5);
        Due.is("times do not matter", x.count(3), PowerRails.SPENT);
    }

    private static void alwaysAhead() {
        Due.says("whether RAIL a is always GOOD ahead of RAIL b (2), at the same TICK or ahead (1), else 0");
        String[] times = {"1 2;rail b 3 4", "1 3;rail b 3 4", "1 4;rail b 3 4", "3 3;rail b 3 3", "4 4;rail b 3 3"};
        int[] due = {2, 1, 0, 1, 0};
        int[] most = {-1, 0, 1, 0, 1};
        for (int i = 0; i < times.length; i++) {
            PowerRails x = Due.of("rail a " + times[i] + ";");
            Due.is("ahead " + times[i], x.ahead(0, 1, 0), due[i]);
            Due.is("by how many " + times[i], x.ahead(0, 1, 1), most[i]);
        }
        PowerRails y = Due.of("rail a 1 9;rail b 1 9 when a;");
        Due.is("whom it waits for", y.ahead(0, 1, 0), 2);
        Due.is("the other way", y.ahead(1, 0, 0), 0);
    }

    private static void mostTicksAhead() {
        Due.says("the most TICKS by which b can be ahead of a (what 1; below 0: never)");
        PowerRails x = Due.of("rail a 1 9;rail b 1 9;");
        Due.is("eight", x.ahead(0, 1, 1), 8);
        Due.is("eight the other way", x.ahead(1, 0, 1), 8);
        PowerRails y = Due.of("rail a 1 9;rail b 1 9 wait 9 when a;");
        Due.is("never", y.ahead(0, 1, 1), -10);
        Due.is("always", y.ahead(1, 0, 1), 18);
        PowerRails z = Due.of("rail a 9 9 wait 9;rail b 9 9 wait 9 when a;rail c 9 9 wait 9 when b;rail d 9 9 wait 9 when c;"
            + "rail e 9 9 wait 9 when d;rail f 9 9 wait 9 when e;rail g 9 9 wait 9 when f;rail h 1 1;");
        Due.is("the most there can be", z.ahead(6, 7, 1), 125);
        Due.is("the least there can be", z.ahead(7, 6, 1), -125);
    }

    private static void aheadByAllThatBearOnIt() {
        Due.says("By ALL TIMES");
        PowerRails x = Due.of("rail a 1 2 when b & c;rail b 1 3;rail c 1 4 when d | b;rail d 2 5;rail e 1 9;rail f 6 6;");
        // a is good at 3 at the earliest, and at 3 + 4 + 2 at the latest, for b is good by 3.
        Due.is("f ahead of a", x.ahead(0, 5, 1), 3);
        Due.is("a ahead of f", x.ahead(5, 0, 1), 3);
        // b takes 3, d takes 2: c is good at 3 with b, and a one behind them.
        Due.is("a always behind b", x.ahead(1, 0, 1), -1);
        PowerRails y = Due.of("rail a 1 9 when b;rail b 1 9 when c;rail c 1 9 when d;rail d 1 1;rail e 9 9;");
        Due.is("a chain, told backwards", y.ahead(0, 4, 1), 19);
        Due.is("the other way", y.ahead(4, 0, 1), 5);
    }

    private static void aheadOfDeadSources() {
        Due.says("NONE -1004: one of both is not UP");
        PowerRails x = Due.of("rail a 1 1;rail b 5 5;rail c 1 1 when a | b;");
        Due.is("c by a", x.ahead(2, 1, 1), -3);
        Due.is("c ahead of b", x.ahead(2, 1, 0), 2);
        x.dead(0, true);
        Due.is("c by b alone", x.ahead(2, 1, 1), 1);
        Due.is("c not ahead of b", x.ahead(2, 1, 0), 0);
        Due.is("a is not up", x.ahead(2, 0, 1), -1004);
    }

    private static void aheadRefuses() {
        Due.says("ahead: BAD -1000: also one and the same");
        PowerRails x = Due.of("rail a 1 1;rail b 1 1;");
        Due.is("a and a", x.ahead(0, 0, 0), -1000);
        Due.is("b and b", x.ahead(1, 1, 1), -1000);
        for (int what : new int[] {-1, 2, Integer.MIN_VALUE, Integer.MAX_VALUE}) {
            Due.is("what " + what, x.ahead(0, 1, what), -1000);
            Due.is("first " + what, x.ahead(what, 1, 0), -1000);
            Due.is("second " + what, x.ahead(0, what, 0), -1000);
        }
        Due.is("none there", new PowerRails().ahead(0, 1, 0), -1000);
    }

    private static void aheadFirstThatFits() {
        Due.says("BAD -1000; STATE -1002: more than 20000 ways; NONE -1004: one of both is not UP");
        PowerRails x = Due.of(WAYS_20160 + "rail f 1 1 when f;rail g 1 1 when g;");
        Due.is("bad and too many", x.ahead(5, 5, 0), -1000);
        Due.is("bad what and too many", x.ahead(0, 5, 2), -1000);
        Due.is("too many and not up", x.ahead(0, 5, 0), -1002);
        PowerRails y = Due.of("rail a 1 1;rail b 1 1 when b;rail c 1 1 when c;");
        for (int what = 0; what <= 1; what++) {
            Due.is("the second is not up", y.ahead(0, 1, what), -1004);
            Due.is("the first is not up", y.ahead(1, 0, what), -1004);
            Due.is("neither is up", y.ahead(1, 2, what), -1004);
        }
        Due.is("one and the same, not up", y.ahead(1, 1, 0), -1000);
        PowerRails z = Due.of("rail a 1 1;rail b 1 1;");
        z.dead(1, true);
        Due.is("dead", z.ahead(0, 1, 0), -1004);
        z.dead(1, false);
        Due.is("dead no more", z.ahead(0, 1, 0), 1);
    }

    private static void drawnTicks() {
        Due.says("DRAWN by TIMES at a TICK (0 to 999). BAD.");
        PowerRails x = Due.of("rail a 2 3 wait 1 draw 4 9;");
        int[] due = {0, 9, 9, 4, 4};
        for (int t = 0; t < due.length; t++) {
            Due.is("drawn at " + t, x.drawn(t), due[t]);
        }
        Due.is("drawn at 999", x.drawn(999), 4);
        for (int t : new int[] {-1, 1000, Integer.MIN_VALUE, Integer.MAX_VALUE}) {
            Due.is("drawn at " + t, x.drawn(t), BAD);
        }
        x.time(0, 3);
        Due.is("by times", x.drawn(3), 9);
        PowerRails none = new PowerRails();
        Due.is("of no rails", none.drawn(0), 0);
        Due.is("of no rails at 999", none.drawn(999), 0);
        Due.is("of no rails at 1000", none.drawn(1000), BAD);
    }

    private static void drawnOfWhom() {
        Due.says("DRAWN by TIMES at a TICK: of those that are GOOD, that RISE by then.");
        PowerRails x = Due.of("rail a 1 1 draw 10 20;rail b 1 1 draw 30 40 when b;rail c 1 1 wait 2 draw 1 5;");
        int[] due = {20, 10, 15, 11};
        for (int t = 0; t < due.length; t++) {
            Due.is("drawn at " + t, x.drawn(t), due[t]);
        }
        x.dead(0, true);
        Due.is("without a", x.drawn(1), 0);
        Due.is("c alone", x.drawn(3), 1);
    }

    private static void peakFirstTick() {
        Due.says("the first TICK with it (1)");
        PowerRails x = Due.of("rail a 1 1 draw 3 3;");
        Due.is("peak", x.peak(0), 3);
        Due.is("at 0 and ever after", x.peak(1), 0);
        PowerRails y = Due.of("rail a 1 1 draw 0 5;rail b 1 1 draw 0 5 when a;rail c 1 1 draw 4 4 wait 1 when b;");
        Due.is("five twice", y.peak(0), 5);
        Due.is("the first", y.peak(1), 0);
        PowerRails z = Due.of("rail a 1 1 draw 1 5;rail b 1 1 draw 0 5 when a;");
        Due.is("six", z.peak(0), 6);
        Due.is("at 1", z.peak(1), 1);
        PowerRails w = Due.of("rail a 9 9 wait 9 draw 99 0;");
        Due.is("when it is good", w.peak(1), 18);
    }

    private static void peakOfNothingDrawn() {
        Due.says("PEAK: the greatest.");
        PowerRails x = Due.of("rail a 1 2 wait 3 draw 0 0;");
        int[] due = {0, 0, 0, 0};
        for (int what = 0; what < due.length; what++) {
            Due.is("of nothing " + what, x.peak(what), due[what]);
        }
    }

    private static void peakByAllTimes() {
        Due.says("by ALL TIMES the greatest (2), the least (3)");
        PowerRails x = Due.of("rail a 1 3 draw 1 9;rail b 2 2 draw 1 1;rail c 1 1 draw 1 9 when b;");
        // c rises at 2 to 3; a rises till then only if it takes 3.
        Due.is("by times", x.peak(0), 11);
        Due.is("the greatest", x.peak(2), 19);
        Due.is("the least", x.peak(3), 11);
        x.time(0, 3);
        Due.is("by other times", x.peak(0), 19);
        Due.is("the least all the same", x.peak(3), 11);
        x.dead(2, true);
        Due.is("without c", x.peak(2), 10);
        // a rises from 1 to 2; c rises with it only if b takes no longer than its least.
        PowerRails y = Due.of("rail a 1 1 wait 1 draw 0 9;rail b 1 2 draw 0 0;rail c 1 1 draw 0 9 when b;");
        Due.is("by least times", y.peak(0), 18);
        Due.is("the greatest by least times", y.peak(2), 18);
        Due.is("the least by other times", y.peak(3), 9);
    }

    private static void peakRefuses() {
        Due.says("peak: BAD; STATE: more than 20000 ways (2, 3); NONE: no RAIL is UP.");
        PowerRails x = Due.of(WAYS_20160);
        for (int what : new int[] {-1, 4, Integer.MIN_VALUE, Integer.MAX_VALUE}) {
            Due.is("peak " + what, x.peak(what), BAD);
            Due.is("peak of no rails " + what, new PowerRails().peak(what), BAD);
        }
        for (int r = 0; r < 5; r++) {
            x.dead(r, true);
        }
        int[] due = {NONE, NONE, STATE, STATE};
        for (int what = 0; what <= 3; what++) {
            Due.is("too many, none up " + what, x.peak(what), due[what]);
            Due.is("no rails " + what, new PowerRails().peak(what), NONE);
            Due.is("a ring " + what, Due.of("rail a 1 9 when a;").peak(what), NONE);
        }
        x.dead(4, false);
        Due.is("one up", x.peak(0), 2);
    }

    private static void row(String text, int last, int... waits) {
        PowerRails x = Due.of(text);
        Due.is("stagger of " + text, x.stagger(0), last);
        for (int r = 0; r < waits.length; r++) {
            Due.is("wait " + r + " of " + text, x.stagger(10 + r), waits[r]);
        }
    }

    private static void waitsToThree() {
        Due.says("STAGGER: of all waits from 0 to 3");
        row("rail a 3 3 draw 0 1;rail b 1 1 draw 0 1;limit 1;", 4, 0, 3);
        row("rail a 4 4 draw 0 1;rail b 1 1 draw 0 1;limit 1;", 5, 1, 0);
        row("rail a 4 4 draw 0 1;rail b 4 4 draw 0 1;limit 1;", NONE, NONE, NONE);
        row("rail a 3 3 draw 0 1;rail b 3 3 draw 0 1;limit 1;", 6, 0, 3);
        row("rail a 1 1 wait 9;", 1, 0);
    }

    private static void noMoreThanTheLimit() {
        Due.says("those by which PEAK is no more than the limit");
        row("rail a 1 1 draw 2 5;rail b 1 1 draw 2 5;limit 10;", 1, 0, 0);
        row("rail a 1 1 draw 2 5;rail b 1 1 draw 2 5;limit 9;", 2, 0, 1);
        row("rail a 1 1 draw 2 5;rail b 1 1 draw 2 5;limit 7;", 2, 0, 1);
        row("rail a 1 1 draw 2 5;rail b 1 1 draw 2 5;limit 6;", NONE);
        row("rail a 1 1 draw 0 0;limit 1;", 1, 0);
        row("rail a 1 1 draw 99 1;limit 98;", NONE, NONE);
        row("rail a 1 1 draw 99 1;limit 99;", 1, 0);
    }

    private static void soonest() {
        Due.says("the last UP one is GOOD soonest");
        // The long one first: the short one rises behind it or ahead of it, and both end at 4.
        row("rail a 1 1 draw 0 1;rail b 3 3 draw 0 1;limit 1;", 4, 0, 1);
        row("rail a 1 1 draw 0 1;rail b 3 3 draw 0 1;rail c 1 1 draw 0 1 when c;limit 1;", 4, 0, 1, 0);
        // b makes c wait for it, so a goes last though its row is not the least of all that do.
        row("rail a 1 1 draw 0 1;rail b 1 1 draw 0 1;rail c 5 5 draw 0 0 when b;limit 1;", 6, 1, 0, 0);
    }

    private static void leastRow() {
        Due.says("of several the least row (RAIL 0 first)");
        row("rail a 1 1 draw 0 1;rail b 1 1 draw 0 1;rail c 1 1 draw 0 1;limit 1;", 3, 0, 1, 2);
        row("rail a 1 1 draw 0 1;rail b 1 1 draw 0 1;rail c 1 1 draw 0 1;rail d 1 1 draw 0 1;limit 1;", 4, 0, 1, 2, 3);
        row("rail a 1 1;rail b 5 5;limit 99;", 5, 0, 0);
        row("rail a 1 1 draw 0 1 when a;rail b 1 1 draw 0 1;rail c 1 1 draw 0 1;limit 1;", 2, 0, 0, 1);
    }

    private static void timesAsTheyAre() {
        Due.says("(all RAILS there are; TIMES as they are)");
        PowerRails x = Due.of("rail a 1 3 draw 0 1;rail b 1 1 draw 0 1;limit 1;");
        Due.is("a takes 1", x.stagger(0), 2);
        Due.is("b waits 1", x.stagger(11), 1);
        x.time(0, 2);
        Due.is("a takes 2", x.stagger(0), 3);
        Due.is("b waits 2", x.stagger(11), 2);
        x.dead(0, true);
        Due.is("a is dead", x.stagger(0), 1);
        Due.is("b does not wait", x.stagger(11), 0);
        Due.is("a's wait", x.stagger(10), 0);
    }

    private static String equal(int rails, String rest) {
        StringBuilder s = new StringBuilder();
        for (int r = 0; r < rails; r++) {
            s.append("rail ").append((char) ('a' + r)).append(" 1 1 draw 0 1;");
        }
        return s + rest;
    }

    private static void sixRails() {
        Due.says("of up to 6 RAILS; STATE: more than 6 RAILS");
        row(equal(6, "limit 2;"), 3, 0, 0, 1, 1, 2, 2);
        row(equal(6, "limit 1;"), NONE, NONE, NONE, NONE, NONE, NONE, NONE);
        row(equal(7, "limit 2;"), STATE, STATE, STATE, STATE, STATE, STATE, STATE, STATE);
        row(equal(8, ""), STATE, STATE);
        Due.is("the eighth", Due.of(equal(8, "")).stagger(17), STATE);
        PowerRails x = Due.of(equal(7, ""));
        for (int r = 0; r < 7; r++) {
            x.dead(r, true);
        }
        Due.is("seven, none up", x.stagger(0), STATE);
        Due.is("adopt of seven, none up", x.adopt(), STATE);
    }

    private static void staggerRefuses() {
        Due.says("stagger: BAD");
        for (int n = 0; n <= 8; n++) {
            PowerRails x = Due.of(equal(n, ""));
            for (int what : new int[] {-1, 1, 2, 9, 10 + n, 18, 100}) {
                Due.is("stagger " + what + " of " + n, x.stagger(what), BAD);
            }
            for (int what : FAR) {
                Due.is("stagger " + what + " of " + n, x.stagger(what), BAD);
            }
        }
    }

    private static void staggerNone() {
        Due.says("stagger: NONE: no waits do, no RAIL is UP.");
        row("rail a 1 1 draw 0 2;limit 1;", NONE, NONE);
        row("rail a 1 1 draw 2 0;limit 1;", NONE, NONE);
        row("rail a 1 1 when a;", NONE, NONE);
        Due.is("no rails", new PowerRails().stagger(0), NONE);
        Due.is("no rails to adopt for", new PowerRails().adopt(), NONE);
        PowerRails x = Due.of("rail a 1 1;");
        x.dead(0, true);
        Due.is("dead", x.stagger(0), NONE);
        Due.is("dead, its wait", x.stagger(10), NONE);
        x.dead(0, false);
        Due.is("dead no more", x.stagger(0), 1);
    }

    private static void adoptSetsWaits() {
        Due.says("Waits become as STAGGER tells: WHEN the last one is GOOD.");
        PowerRails x = Due.of("rail a 1 1 wait 9 draw 0 1;rail b 1 1 wait 8 draw 0 1;rail c 1 1 wait 7 when c;limit 1;");
        Due.is("adopt", x.adopt(), 2);
        int[] due = {0, 1, 0};
        for (int r = 0; r < 3; r++) {
            Due.is("wait " + r, x.rail(r, 5), due[r]);
        }
        Due.is("when", x.when(1, 0), 2);
        Due.is("peak", x.peak(0), 1);
        Due.is("again", x.adopt(), 2);
        Due.is("without the last three of six", Due.of(equal(6, "limit 2;")).adopt(), 3);
    }

    private static void adoptRefused() {
        Due.says("adopt: STATE; NONE likewise; what is refused changes nothing");
        String[] texts = {"rail a 1 1 wait 4 draw 2 2;limit 1;", "rail a 1 1 wait 4 when a;", equal(6, "rail g 1 1 wait 4;")};
        int[] due = {NONE, NONE, STATE};
        int[] who = {0, 0, 6};
        for (int i = 0; i < texts.length; i++) {
            PowerRails x = Due.of(texts[i]);
            Due.is("adopt of " + texts[i], x.adopt(), due[i]);
            Due.is("wait of " + texts[i], x.rail(who[i], 5), 4);
        }
    }

    private static void whatGoesOn() {
        Due.says("(What goes on goes on.)");
        PowerRails x = Due.of("rail a 2 2 wait 9 draw 1 2;");
        x.key(true);
        x.go(4);
        x.adopt();
        Due.is("waits", x.is(0, 0), 1);
        Due.is("since", x.is(0, 1), 4);
        Due.is("tick", x.now(0), 4);
        Due.is("key", x.now(7), 1);
        x.go(1);
        Due.same("has waited so long", Due.history(x), "0a1 4a2");
        x.adopt();
        x.go(2);
        Due.same("rises on", Due.history(x), "0a1 4a2 6a3");
    }
}
