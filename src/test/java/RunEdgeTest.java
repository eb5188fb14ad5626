/** The boundary cases of the terms under 2 and of promises 10 to 16, each sentence by itself. */
public final class RunEdgeTest {
    private static final int BAD = PowerRails.BAD, NONE = PowerRails.NONE;
    private static final int[] FAR = {Integer.MIN_VALUE, -1000, 1000, Integer.MAX_VALUE};

    public static void main(String[] args) {
        deadNeverGood();
        deadNoMoreGood();
        deadAndNotAgain();
        leastToMost();
        holdsIfGood();
        waitsAndMayNot();
        waitedSoLong();
        risesAndMayNot();
        goodAndMayNot();
        risenSoLong();
        fallenSoLong();
        goesOnToOff();
        foundForAllFirst();
        oneChangeInARound();
        beginsAtZero();
        aboveTheLimit();
        greatestLimit();
        whoDraws();
        withinTicks();
        withinBothTogether();
        withinBeginsAnew();
        bothTrips();
        heldThisOneFirst();
        triesLeft();
        forGood();
        keyOffEndsForGood();
        keyOffWhileHeldForTicks();
        triesBack();
        settledAgain();
        sixtyFourHappenings();
        tripAtTheEdge();
        keyAnswers();
        deadAnswers();
        timeRefuses();
        goTicks();
        manyTrips();
        nowAtFirst();
        nowRefuses();
        nowDrawn();
        isRefuses();
        howOftenGood();
        happenedRefuses();
        fiveHundredTwelveCalls();
        Due.close();
    }

    private static PowerRails on(String text) {
        PowerRails x = Due.of(text);
        x.key(true);
        return x;
    }

    private static void deadNeverGood() {
        Due.says("DEAD (told by hand): it never becomes GOOD");
        PowerRails x = on("rail a 1 1;rail b 1 1 when a;");
        x.dead(0, true);
        x.go(999);
        Due.is("it rises", x.is(0, 0), 2);
        Due.is("since", x.is(0, 1), 999);
        Due.is("never good", x.is(0, 4), 0);
        Due.is("b never may", x.is(1, 0), 0);
        Due.same("happened", Due.history(x), "0a1 0a2");
        x.dead(0, false);
        x.go(1);
        Due.is("good at once, risen so long", x.is(0, 0), 3);
    }

    private static void deadNoMoreGood() {
        Due.says("DEAD: it never becomes GOOD, and is so no more");
        PowerRails x = on("rail a 1 1 fall 2;rail b 1 1 fall 0 when a;");
        x.go(3);
        Due.is("both good", x.now(1), 3);
        x.dead(0, true);
        Due.is("till the tick", x.now(1), 3);
        x.go(1);
        Due.is("none good", x.now(1), 0);
        Due.same("happened", Due.history(x), "0a1 0a2 1a3 1b1 1b2 2b3 3a4 3b4 3b0");
        x.go(2);
        Due.is("rises again, though it is dead", x.is(0, 0), 2);
    }

    private static void deadAndNotAgain() {
        Due.says("GOOD and DEAD: it FALLS");
        PowerRails x = on("rail a 1 1;");
        x.go(2);
        x.dead(0, true);
        x.dead(0, false);
        x.go(1);
        Due.is("dead between ticks alone", x.is(0, 0), 3);
        x.dead(0, true);
        x.key(false);
        x.go(1);
        Due.is("falls once, by both", x.is(0, 0), 4);
        Due.is("since", x.is(0, 1), 1);
        Due.same("happened", Due.history(x), "0a1 0a2 1a3 3a4");
    }

    private static void leastToMost() {
        Due.says("how long each RAIL takes to rise (by hand LEAST to MOST; LEAST at first)");
        for (int least = 1; least <= 9; least++) {
            for (int most = least; most <= 9; most++) {
                PowerRails x = Due.of("rail a " + least + " " + most + ";");
                int takes = least;
                Due.is("at first", x.is(0, 3), least);
                for (int v = -1; v <= 11; v++) {
                    boolean may = v >= least && v <= most;
                    Due.is("time " + v + " of " + least + " " + most, x.time(0, v), may ? takes : BAD);
                    takes = may ? v : takes;
                    Due.is("takes", x.is(0, 3), takes);
                }
            }
        }
    }

    private static void holdsIfGood() {
        Due.says("A RAIL HOLDS in a formula, if it is GOOD; THE KEY, if it is on.");
        PowerRails x = on("rail a 3 3 wait 2 fall 3;rail b 1 1 when a;rail c 1 1 when key & b;");
        x.go(5);
        Due.is("a rises: b is off", x.is(1, 0), 0);
        x.go(1);
        Due.is("a is good: b rises", x.is(1, 0), 2);
        x.go(1);
        Due.is("b is good: c rises", x.is(2, 0), 2);
        x.key(false);
        x.go(1);
        Due.is("a falls: b falls", x.is(1, 0), 4);
        Due.is("c falls", x.is(2, 0), 4);
        x.go(1);
        Due.is("a falls still", x.is(0, 0), 4);
        Due.is("b is off", x.is(1, 0), 0);
    }

    private static void waitsAndMayNot() {
        Due.says("WAITS and MAY not: OFF");
        PowerRails x = on("rail a 1 1 wait 1;");
        x.go(1);
        x.key(false);
        x.go(1);
        Due.same("though it has waited so long", Due.history(x), "0a1 1a0");
        x.key(true);
        x.go(1);
        Due.is("waits anew", x.is(0, 1), 1);
        Due.is("waits", x.is(0, 0), 1);
    }

    private static void waitedSoLong() {
        Due.says("WAITS and has waited so long as its wait: it RISES");
        for (int wait = 0; wait <= 9; wait++) {
            PowerRails x = on("rail a 1 1 wait " + wait + ";");
            if (wait > 0) {
                x.go(wait);
                Due.is("waits yet " + wait, x.is(0, 0), 1);
                Due.is("since " + wait, x.is(0, 1), wait);
            }
            x.go(1);
            Due.is("rises " + wait, x.is(0, 0), 2);
            Due.same("happened " + wait, Due.history(x), "0a1 " + wait + "a2");
        }
    }

    private static void risesAndMayNot() {
        Due.says("RISES or GOOD and MAY not: it FALLS");
        PowerRails x = on("rail a 1 1;");
        x.go(1);
        x.key(false);
        x.go(1);
        Due.same("though it has risen so long", Due.history(x), "0a1 0a2 1a4");
        Due.is("never good", x.is(0, 4), 0);
    }

    private static void goodAndMayNot() {
        Due.says("RISES or GOOD and MAY not: it FALLS");
        PowerRails x = on("rail a 1 1;rail b 1 1 when a & key;rail c 1 1 when a | key;");
        x.go(3);
        x.key(false);
        x.go(1);
        Due.is("none good", x.now(1), 0);
        Due.same("happened", Due.history(x), "0a1 0c1 0a2 0c2 1a3 1c3 1b1 1b2 2b3 3a4 3b4 3c4");
    }

    private static void risenSoLong() {
        Due.says("RISES, not DEAD and has risen so long as it takes: GOOD");
        for (int takes = 1; takes <= 9; takes++) {
            PowerRails x = on("rail a 1 9;");
            x.time(0, takes);
            x.go(takes);
            Due.is("rises yet " + takes, x.is(0, 0), 2);
            Due.is("since " + takes, x.is(0, 1), takes);
            x.go(1);
            Due.is("good " + takes, x.is(0, 0), 3);
            Due.same("happened " + takes, Due.history(x), "0a1 0a2 " + takes + "a3");
        }
        PowerRails x = on("rail a 1 9;");
        x.time(0, 9);
        x.go(5);
        x.time(0, 2);
        x.go(1);
        Due.same("longer than it takes by now", Due.history(x), "0a1 0a2 5a3");
    }

    private static void fallenSoLong() {
        Due.says("FALLS and has fallen so long as it takes: OFF");
        for (int fall = 0; fall <= 9; fall++) {
            PowerRails x = on("rail a 1 1 fall " + fall + ";");
            x.go(2);
            x.key(false);
            if (fall > 0) {
                x.go(fall);
                Due.is("falls yet " + fall, x.is(0, 0), 4);
                Due.is("since " + fall, x.is(0, 1), fall);
            }
            x.go(1);
            Due.is("off " + fall, x.is(0, 0), 0);
            Due.same("happened " + fall, Due.history(x), "0a1 0a2 1a3 2a4 " + (2 + fall) + "a0");
        }
    }

    private static void goesOnToOff() {
        Due.says("(Who FALLS goes on to OFF, though it MAY.)");
        PowerRails x = on("rail a 1 1 fall 2;");
        x.go(2);
        x.key(false);
        x.go(1);
        x.key(true);
        x.go(1);
        Due.is("falls on", x.is(0, 0), 4);
        x.go(1);
        Due.same("then all of it", Due.history(x), "0a1 0a2 1a3 2a4 4a0 4a1 4a2");
    }

    private static void foundForAllFirst() {
        Due.says("in each round first it is found for all RAILS which of them MAY; then RAIL by RAIL");
        PowerRails x = on("rail a 1 1;rail b 1 1 when a;rail c 1 1;");
        x.go(2);
        Due.same("b waits in the round behind", Due.history(x), "0a1 0c1 0a2 0c2 1a3 1c3 1b1 1b2");
        PowerRails y = on("rail a 1 1 fall 0;rail b 1 1 when a;");
        y.go(3);
        y.key(false);
        y.go(1);
        Due.same("b falls in the round behind", Due.history(y), "0a1 0a2 1a3 1b1 1b2 2b3 3a4 3a0 3b4");
    }

    private static void oneChangeInARound() {
        Due.says("(One such change of a RAIL in a round ..)");
        PowerRails x = on("rail a 1 1;rail b 1 1;rail c 1 1 wait 1;");
        x.go(2);
        Due.same("round by round", Due.history(x), "0a1 0b1 0c1 0a2 0b2 1a3 1b3 1c2");
        PowerRails y = on("rail a 1 1 fall 0;rail b 1 1 fall 0;");
        y.go(2);
        y.key(false);
        y.go(1);
        Due.same("falls, then off", Due.history(y), "0a1 0b1 0a2 0b2 1a3 1b3 2a4 2b4 2a0 2b0");
    }

    private static void beginsAtZero() {
        Due.says("(.. it begins at 0 TICKS there.) Behind that TICKS of all go on by 1.");
        PowerRails x = Due.of("rail a 2 2 wait 2 fall 2;");
        Due.is("off at first", x.is(0, 1), 0);
        x.go(4);
        Due.is("off", x.is(0, 1), 4);
        x.key(true);
        Due.is("nothing yet", x.is(0, 1), 4);
        int[] states = {1, 1, 2, 2, 3, 3, 3};
        int[] since = {1, 2, 1, 2, 1, 2, 3};
        for (int i = 0; i < states.length; i++) {
            x.go(1);
            Due.is("state " + i, x.is(0, 0), states[i]);
            Due.is("since " + i, x.is(0, 1), since[i]);
            Due.is("tick " + i, x.now(0), 5 + i);
        }
    }

    private static void aboveTheLimit() {
        Due.says("TRIP 1: it is above the limit.");
        PowerRails x = on("rail a 1 1 draw 5 4;limit 5;");
        Due.is("at the limit", x.go(20), 0);
        Due.is("drawn", x.now(3), 5);
        PowerRails y = on("rail a 1 1 draw 6 5;limit 5;");
        Due.is("rising at the limit", y.go(1), 0);
        Due.is("one above", y.go(1), 1);
        Due.same("happened", Due.history(y), "0a1 0a2 1a3 1*6 1a4");
        PowerRails z = on("rail a 1 1;limit 1;");
        Due.is("the least limit", z.go(1), 1);
        PowerRails w = on("rail a 1 1 draw 1 1;limit 1;");
        Due.is("at the least limit", w.go(9), 0);
    }

    private static void greatestLimit() {
        Due.says("limit: 1 to 999 (999)");
        StringBuilder s = new StringBuilder();
        for (char c = 'a'; c <= 'h'; c++) {
            s.append("rail ").append(c).append(" 1 1 draw 99 99;");
        }
        PowerRails x = on(s.toString());
        Due.is("none", x.go(9), 0);
        Due.is("all of it", x.now(3), 792);
        PowerRails y = on(s + "limit 792;");
        Due.is("none at it", y.go(9), 0);
        PowerRails z = on(s + "limit 791;");
        Due.is("one above it", z.go(9), 1);
    }

    private static void whoDraws() {
        Due.says("Then what is drawn is summed: of GOOD ones, of those that RISE.");
        PowerRails x = on("rail a 2 2 wait 1 fall 2 draw 3 50;");
        int[] due = {0, 50, 50, 3, 3};
        for (int t = 0; t < due.length; t++) {
            x.go(1);
            Due.is("drawn at " + t, x.now(3), due[t]);
        }
        x.key(false);
        x.go(1);
        Due.is("falling", x.now(3), 0);
        x.go(5);
        Due.is("off", x.now(3), 0);
        PowerRails y = on("rail a 1 1 draw 0 0;rail b 9 9 draw 1 99;");
        y.go(2);
        Due.is("nothing and much", y.now(3), 99);
    }

    private static void withinTicks() {
        Due.says("TRIP 2: a RAIL that WAITS or RISES is so (both together) for as many TICKS as within tells, or more.");
        for (int within = 1; within <= 9; within++) {
            PowerRails x = on("rail a " + within + " " + within + " within " + within + ";");
            Due.is("good by then " + within, x.go(30), 0);
            int longer = Math.min(9, within + 1);
            PowerRails y = on("rail a " + longer + " " + longer + " wait " + (longer > within ? 0 : 1)
                + " within " + within + ";");
            Due.is("not yet " + within, y.go(within), 0);
            Due.is("then " + within, y.go(1), 1);
            Due.is("at that tick " + within, y.happened(y.count(2) - 2, 0), within);
            Due.is("of that kind " + within, y.happened(y.count(2) - 2, 2), 7);
        }
        PowerRails z = on("rail a 1 1 within 99;");
        z.dead(0, true);
        Due.is("99: not yet", z.go(99), 0);
        Due.is("99: then", z.go(1), 1);
        PowerRails w = on("rail a 9 9 wait 9;");
        w.dead(0, true);
        Due.is("no such", w.go(999), 0);
    }

    private static void withinBothTogether() {
        Due.says("TRIP 2: (both together)");
        for (int wait = 0; wait <= 5; wait++) {
            PowerRails x = on("rail a " + (6 - wait) + " 6 wait " + wait + " within 5;");
            Due.is("not yet " + wait, x.go(5), 0);
            Due.is("then " + wait, x.go(1), 1);
            PowerRails y = on("rail a " + (6 - wait) + " 6 wait " + wait + " within 6;");
            Due.is("good at 6 " + wait, y.go(20), 0);
        }
        PowerRails z = on("rail a 1 1 wait 9 within 3;");
        z.go(4);
        Due.same("while it waits", Due.history(z), "0a1 3*7 3a0");
    }

    private static void withinBeginsAnew() {
        Due.says("within: TICKS in which it must be good from when it may");
        PowerRails x = on("rail a 3 3 within 3 fall 0;");
        for (int i = 0; i < 5; i++) {
            x.key(true);
            Due.is("two ticks", x.go(2), 0);
            x.key(false);
            Due.is("and off", x.go(1), 0);
        }
        x.key(true);
        Due.is("then good in time", x.go(9), 0);
        Due.is("good", x.is(0, 0), 3);
        Due.is("good for long", x.go(99), 0);
        PowerRails y = on("rail a 1 1 fall 9 within 2;");
        y.go(2);
        y.key(false);
        Due.is("falls for long", y.go(9), 0);
        PowerRails z = Due.of("rail a 1 1 within 1;");
        Due.is("off for long", z.go(99), 0);
    }

    private static void bothTrips() {
        Due.says("TRIP 1 .. TRIP 2 .. Then all is HELD .. (one is used up)");
        PowerRails x = on("rail a 2 2 draw 0 3 within 1;rail b 1 1 draw 4 1;limit 5;retry 3 9;");
        Due.is("none yet", x.go(1), 0);
        Due.is("one trip by both", x.go(1), 1);
        Due.is("one try used up", x.now(5), 2);
        Due.same("happened", Due.history(x), "0a1 0b1 0a2 0b2 1b3 1*6 1a4 1b4");
        PowerRails y = on("rail a 2 2 within 1;rail b 2 2 within 1;retry 3 9;");
        Due.is("two rails, one trip", y.go(2), 1);
        Due.same("happened", Due.history(y), "0a1 0b1 0a2 0b2 1*7 1a4 1b4");
    }

    private static void heldThisOneFirst() {
        Due.says("Then all is HELD: for so many TICKS as retry tells (this one the first)");
        for (int ticks : new int[] {1, 2, 3, 98, 99}) {
            PowerRails x = on("rail a 1 1 fall 0;limit 1;retry 9 " + ticks + ";");
            Due.is("trip " + ticks, x.go(1), 1);
            Due.is("from here on " + ticks, x.now(4), ticks - 1);
            if (ticks > 1) {
                Due.is("held " + ticks, x.go(ticks - 1), 0);
                Due.is("no more " + ticks, x.now(4), 0);
                Due.is("off all the while " + ticks, x.is(0, 0), 0);
                Due.is("since then " + ticks, x.is(0, 1), ticks);
            }
            Due.is("again " + ticks, x.go(1), 1);
            Due.same("happened " + ticks, Due.history(x), "0a1 0a2 0*6 0a4 0a0 " + ticks + "a1 " + ticks + "a2 "
                + ticks + "*6 " + ticks + "a4 " + ticks + "a0");
        }
    }

    private static void triesLeft() {
        Due.says("if there are tries left (one is used up)");
        for (int tries = 0; tries <= 9; tries++) {
            PowerRails x = on("rail a 1 1 fall 0;limit 1;retry " + tries + " 1;");
            Due.is("at first " + tries, x.now(5), tries);
            for (int left = tries - 1; left >= 0; left--) {
                Due.is("trip", x.go(1), 1);
                Due.is("left", x.now(5), left);
                Due.is("held this tick alone", x.now(4), 0);
            }
            Due.is("the last trip " + tries, x.go(1), 1);
            Due.is("none left " + tries, x.now(5), 0);
            Due.is("for good " + tries, x.now(4), NONE);
            Due.is("no more " + tries, x.go(999), 0);
            Due.is("in all " + tries, x.now(8), tries + 1);
        }
    }

    private static void forGood() {
        Due.says("else for good, till THE KEY is turned off");
        PowerRails x = on("rail a 1 1;limit 1;");
        Due.is("trip", x.go(1), 1);
        Due.is("for good", x.now(4), NONE);
        x.go(999);
        Due.is("for good still", x.now(4), NONE);
        Due.is("off", x.is(0, 0), 0);
        x.key(true);
        Due.is("turned on: for good still", x.now(4), NONE);
        Due.is("nothing", x.go(9), 0);
    }

    private static void keyOffEndsForGood() {
        Due.says("till THE KEY is turned off");
        PowerRails x = on("rail a 1 1;limit 1;");
        x.go(2);
        x.key(false);
        Due.is("held no more", x.now(4), 0);
        Due.is("off while the key is", x.go(5), 0);
        x.key(true);
        Due.is("again", x.go(1), 1);
        x.key(false);
        x.key(true);
        x.go(1);
        Due.same("off and on between two ticks", Due.history(x), "0a1 0a2 0*6 0a4 1a0 7a1 7a2 7*6 7a4 8a0 8a1 8a2 8*6 8a4");
    }

    private static void keyOffWhileHeldForTicks() {
        Due.says("HELD: for so many TICKS as retry tells .. else for good, till THE KEY is turned off");
        PowerRails x = on("rail a 1 1;limit 1;retry 1 6;");
        x.go(1);
        x.key(false);
        Due.is("held for its ticks", x.now(4), 5);
        x.key(true);
        Due.is("nothing", x.go(5), 0);
        Due.is("then again", x.go(1), 1);
    }

    private static void triesBack() {
        Due.says("(Turning THE KEY off, though it is off, gives all tries back.)");
        PowerRails x = on("rail a 1 1;limit 1;retry 3 1;");
        Due.is("two trips", x.go(2), 2);
        Due.is("one left", x.now(5), 1);
        x.key(true);
        Due.is("turned on gives none back", x.now(5), 1);
        Due.is("turned off", x.key(false), 1);
        Due.is("gives all back", x.now(5), 3);
        PowerRails y = on("rail a 1 1;rail b 1 1 when a | b;rail c 1 1 within 2 when b;retry 2 3;");
        y.go(4);
        y.key(false);
        y.go(2);
        Due.is("b holds itself, and c", y.now(1), 6);
        y.dead(2, true);
        Due.is("c falls, rises, comes too late", y.go(4), 1);
        Due.is("with the key off", y.now(7), 0);
        Due.is("one used up", y.now(5), 1);
        Due.is("it was off", y.key(false), 0);
        Due.is("all back", y.now(5), 2);
        Due.is("held for its ticks", y.now(4), 2);
    }

    private static void settledAgain() {
        Due.says("the TICK is settled again (without looking for a TRIP)");
        PowerRails x = on("rail a 1 1 fall 0;rail b 1 1 wait 5;limit 1;");
        Due.is("one trip", x.go(1), 1);
        Due.same("falls and is off at the same tick", Due.history(x), "0a1 0b1 0a2 0*6 0a4 0b0 0a0");
        Due.is("drawn as it was looked at", x.now(3), 2);
        Due.is("none rises", x.now(2), 0);
    }

    private static void sixtyFourHappenings() {
        Due.says("HAPPENINGS (64; those behind are not kept)");
        PowerRails x = Due.of("rail a 1 1 wait 1;");
        for (int i = 0; i < 31; i++) {
            x.key(i % 2 == 0);
            x.go(1);
            Due.is("two by two", x.count(2), i + 1);
        }
        // Each tick with the key on begins a wait, each with it off ends it.
        for (int i = 31; i < 63; i++) {
            x.key(i % 2 == 0);
            x.go(1);
        }
        Due.is("63", x.count(2), 63);
        Due.is("none is the 64th", x.happened(63, 0), BAD);
        x.key(false);
        x.go(1);
        Due.is("64", x.count(2), 64);
        Due.is("the 64th: its tick", x.happened(63, 0), 63);
        Due.is("the 64th: off", x.happened(63, 2), 0);
        x.key(true);
        x.go(1);
        Due.is("64 still", x.count(2), 64);
        Due.is("none is the 65th", x.happened(64, 0), BAD);
        Due.is("the 64th stays", x.happened(63, 2), 0);
        Due.is("the first stays", x.happened(0, 0), 0);
        Due.is("it waits all the same", x.is(0, 0), 1);
        x.go(2);
        Due.is("and is good", x.is(0, 4), 1);
        Due.tell(x, "rail a 1 1;");
        x.key(true);
        x.go(1);
        Due.same("kept again behind a text", Due.history(x), "0a1 0a2");
    }

    /** Five happen whenever it trips, the third of them the trip; some twos ahead of it put it at a place. */
    private static PowerRails tripsBehind(int twos) {
        PowerRails x = Due.of("rail a 1 1 wait 1 fall 0;limit 1;retry 9 1;");
        for (int i = 0; i < 2 * twos; i++) {
            x.key(i % 2 == 0);
            x.go(1);
        }
        for (int i = 0; i < 12; i++) {
            x.key(false);
            x.key(true);
            x.go(2);
        }
        Due.is("kept", x.count(2), 60 + 2 * twos);
        return x;
    }

    private static void tripAtTheEdge() {
        Due.says("HAPPENINGS (64; those behind are not kept): TRIPS: RAIL NONE, 5 and 1 or 2");
        PowerRails x = tripsBehind(0);
        Due.is("trips", x.now(8), 12);
        x.key(false);
        x.key(true);
        Due.is("one more", x.go(2), 1);
        Due.is("64", x.count(2), 64);
        Due.is("the trip is the 63rd", x.happened(62, 1), NONE);
        Due.is("its kind", x.happened(62, 2), 6);
        Due.is("the fall is the 64th", x.happened(63, 2), 4);
        PowerRails y = tripsBehind(1);
        y.key(false);
        y.key(true);
        Due.is("one more, not kept", y.go(2), 1);
        Due.is("64 of it", y.count(2), 64);
        Due.is("the rise is the 64th", y.happened(63, 2), 2);
        Due.is("13 trips all the same", y.now(8), 13);
        PowerRails z = tripsBehind(1);
        z.key(false);
        z.go(1);
        z.key(true);
        z.go(1);
        Due.is("one waits", z.count(2), 63);
        z.key(false);
        z.go(1);
        Due.is("none waits", z.count(2), 64);
        z.key(true);
        Due.is("a trip behind all", z.go(2), 1);
        Due.is("not kept", z.count(2), 64);
        Due.is("counted", z.now(8), 13);
    }

    private static void keyAnswers() {
        Due.says("THE KEY is turned (on true): whether it was on (1, 0). (What comes of it comes at the TICK.)");
        PowerRails x = Due.of("rail a 1 1;");
        boolean[] turns = {false, true, true, false, false, true};
        int[] due = {0, 0, 1, 1, 0, 0};
        for (int i = 0; i < turns.length; i++) {
            Due.is("turn " + i, x.key(turns[i]), due[i]);
            Due.is("is " + i, x.now(7), turns[i] ? 1 : 0);
            Due.is("nothing comes of it " + i, x.count(2), 0);
        }
        PowerRails y = new PowerRails();
        Due.is("without rails", y.key(true), 0);
        Due.is("on", y.key(false), 1);
    }

    private static void deadAnswers() {
        Due.says("A RAIL is DEAD, or not: whether it was. BAD.");
        PowerRails x = Due.of("rail a 1 1;rail b 1 1;rail c 1 1;");
        for (int r = 0; r < 3; r++) {
            Due.is("not", x.dead(r, false), 0);
            Due.is("not yet", x.dead(r, true), 0);
            Due.is("was", x.dead(r, true), 1);
            Due.is("how many", x.count(1), r + 1);
        }
        for (int r : new int[] {-1, 3, 8, 32, Integer.MIN_VALUE, Integer.MAX_VALUE}) {
            Due.is("no rail " + r, x.dead(r, false), BAD);
            Due.is("nor dead " + r, x.dead(r, true), BAD);
        }
        Due.is("three still", x.count(1), 3);
        Due.is("no more", x.dead(1, false), 1);
        Due.is("two", x.count(1), 2);
        Due.is("a is", x.is(0, 2), 1);
        Due.is("b is not", x.is(1, 2), 0);
    }

    private static void timeRefuses() {
        Due.says("How long a RAIL takes to rise becomes v (LEAST to MOST): what it was. BAD.");
        PowerRails x = Due.of("rail a 3 6;rail b 5 5;");
        Due.is("to most", x.time(0, 6), 3);
        Due.is("to least", x.time(0, 3), 6);
        Due.is("the same", x.time(0, 3), 3);
        Due.is("the only one", x.time(1, 5), 5);
        for (int v : new int[] {2, 7, 0, -1, Integer.MIN_VALUE, Integer.MAX_VALUE}) {
            Due.is("time " + v, x.time(0, v), BAD);
        }
        Due.is("b 4", x.time(1, 4), BAD);
        Due.is("b 6", x.time(1, 6), BAD);
        Due.is("a stays", x.is(0, 3), 3);
        Due.is("b stays", x.is(1, 3), 5);
    }

    private static void goTicks() {
        Due.says("n TICKS (1 to 999) go: how many TRIPS there were. BAD.");
        PowerRails x = Due.of("rail a 1 1;");
        for (int n : new int[] {0, -1, 1000, 1001, Integer.MIN_VALUE, Integer.MAX_VALUE}) {
            Due.is("go " + n, x.go(n), BAD);
            Due.is("none went", x.now(0), 0);
            Due.is("off since", x.is(0, 1), 0);
        }
        Due.is("one", x.go(1), 0);
        Due.is("went", x.now(0), 1);
        Due.is("999", x.go(999), 0);
        Due.is("all went", x.now(0), 1000);
        Due.is("off since all", x.is(0, 1), 1000);
    }

    private static void manyTrips() {
        Due.says("how many TRIPS there were");
        PowerRails x = on("rail a 1 1 fall 0;limit 1;retry 9 1;");
        Due.is("in one tick", x.go(1), 1);
        Due.is("in five", x.go(5), 5);
        Due.is("in all the others", x.go(999), 4);
        Due.is("in all", x.now(8), 10);
        Due.is("none", x.go(999), 0);
    }

    private static void nowAtFirst() {
        Due.says("Of now: .. (0: none went)");
        PowerRails x = Due.of("rail a 1 1;retry 7 1;");
        int[] due = {0, 0, 0, 0, 0, 7, 0, 0, 0};
        for (int what = 0; what < due.length; what++) {
            Due.is("now " + what, x.now(what), due[what]);
        }
    }

    private static void nowRefuses() {
        Due.says("now: BAD -9.");
        PowerRails x = on("rail a 1 1;limit 1;");
        x.go(1);
        Due.is("-4 is an answer", x.now(4), NONE);
        for (int what : new int[] {-1, 9, 10, -9, Integer.MIN_VALUE, Integer.MAX_VALUE}) {
            Due.is("now " + what, x.now(what), -9);
        }
    }

    private static void nowDrawn() {
        Due.says("3 what was drawn at the latest TICK that went, as it was looked at for TRIPS; 6 the greatest");
        PowerRails x = on("rail a 1 1 draw 9 3;rail b 1 1 draw 5 2 when a;limit 13;");
        int[] drawn = {3, 11, 14, 0, 0};
        int[] greatest = {3, 11, 14, 14, 14};
        for (int t = 0; t < drawn.length; t++) {
            x.go(1);
            Due.is("drawn at " + t, x.now(3), drawn[t]);
            Due.is("greatest at " + t, x.now(6), greatest[t]);
        }
        x.key(false);
        x.key(true);
        Due.is("of the tick that went", x.now(3), 0);
        x.go(1);
        Due.is("of the next", x.now(3), 3);
        Due.is("the greatest stays", x.now(6), 14);
    }

    private static void isRefuses() {
        Due.says("is: BAD.");
        PowerRails x = on("rail a 1 1;");
        x.go(1);
        for (int what : new int[] {-1, 5, 6, Integer.MIN_VALUE, Integer.MAX_VALUE}) {
            Due.is("is " + what, x.is(0, what), BAD);
        }
        for (int r : FAR) {
            Due.is("is of " + r, x.is(r, 0), BAD);
        }
        Due.is("of b", x.is(1, 0), BAD);
        Due.is("of -1", x.is(-1, 0), BAD);
    }

    private static void howOftenGood() {
        Due.says("4 how often it was GOOD");
        PowerRails x = Due.of("rail a 1 1 fall 0;");
        Due.is("never", x.is(0, 4), 0);
        for (int i = 1; i <= 20; i++) {
            x.key(true);
            x.go(1);
            Due.is("before " + i, x.is(0, 4), i - 1);
            x.go(5);
            Due.is("times " + i, x.is(0, 4), i);
            x.key(false);
            x.go(1);
        }
        Due.is("more than are kept", x.count(2), 64);
    }

    private static void happenedRefuses() {
        Due.says("HAPPENING i: 0 TICK, 1 RAIL (NONE: a TRIP), 2 what. BAD.");
        PowerRails x = Due.of("rail a 1 1 fall 0;limit 1;");
        Due.is("none yet", x.happened(0, 0), BAD);
        x.key(true);
        x.go(1);
        Due.same("happened", Due.history(x), "0a1 0a2 0*6 0a4 0a0");
        Due.is("the last", x.happened(4, 2), 0);
        Due.is("a trip's rail", x.happened(2, 1), NONE);
        Due.is("none behind", x.happened(5, 0), BAD);
        Due.is("none ahead", x.happened(-1, 0), BAD);
        Due.is("the 65th", x.happened(64, 0), BAD);
        for (int far : FAR) {
            Due.is("happening " + far, x.happened(far, 0), BAD);
            Due.is("what " + far, x.happened(0, far), BAD);
        }
        Due.is("what 3", x.happened(0, 3), BAD);
        Due.is("what -1", x.happened(0, -1), BAD);
    }

    private static void fiveHundredTwelveCalls() {
        Due.says("An object is used for at most 512 calls after it has been made");
        PowerRails x = new PowerRails();
        x.feed(Due.eight("rail a 1 1;", 0));
        x.feed(Due.eight("rail a 1 1;", 8));
        x.text();
        x.key(true);
        for (int i = 5; i <= 511; i++) {
            x.go(999);
        }
        Due.is("the last of them", x.is(0, 1), 507 * 999 - 1);
    }
}
