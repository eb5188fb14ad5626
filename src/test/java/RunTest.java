/** Promises 10 to 16: the key, the dead, times, ticks, what is now, what a rail is, what happened. */
public final class RunTest {
    public static void main(String[] args) {
        key();
        dead();
        time();
        go();
        waitsAndRises();
        roundsWithinATick();
        fallsGoOnToOff();
        fallOfZero();
        overLimit();
        tooLate();
        tooLateWhileWaiting();
        bothTripsAtOnce();
        triesAgain();
        heldForGood();
        keyOffAndTries();
        latchedWithoutKey();
        deadOnesRiseForEver();
        nowAndIsRefuse();
        historyIsFull();
        adoptedWaitsGoOn();
        Due.close();
    }

    /** What happened, as rows of tick, rail, what, from one on. */
    private static void happened(PowerRails x, int first, int[][] rows) {
        for (int i = 0; i < rows.length; i++) {
            for (int what = 0; what < 3; what++) {
                Due.is("happening " + (first + i) + " " + what, x.happened(first + i, what), rows[i][what]);
            }
        }
        Due.is("happenings", x.count(2), first + rows.length);
    }

    private static void key() {
        PowerRails x = Due.of("rail a 1 1;");
        Due.is("off at first", x.key(true), 0);
        Due.is("on", x.now(7), 1);
        Due.is("on again", x.key(true), 1);
        Due.is("nothing comes of it yet", x.is(0, 0), 0);
        Due.is("was on", x.key(false), 1);
        Due.is("was off", x.key(false), 0);
        x.go(1);
        Due.is("still off", x.is(0, 0), 0);
    }

    private static void dead() {
        PowerRails x = Due.of("rail a 1 1 fall 2;rail b 1 1;");
        x.key(true);
        x.go(2);
        Due.is("good", x.now(1), 3);
        Due.is("was not", x.dead(0, true), 0);
        Due.is("was", x.dead(0, true), 1);
        Due.is("is dead", x.is(0, 2), 1);
        Due.is("b is not", x.is(1, 2), 0);
        Due.is("one", x.count(1), 1);
        Due.is("good till the tick", x.now(1), 3);
        x.go(1);
        Due.is("falls", x.is(0, 0), 4);
        Due.is("b stays", x.now(1), 2);
        Due.is("no more", x.dead(0, false), 1);
        Due.is("was not again", x.dead(0, false), 0);
        Due.is("none", x.count(1), 0);
        Due.is("no rail 2", x.dead(2, true), PowerRails.BAD);
        Due.is("no rail -1", x.dead(-1, false), PowerRails.BAD);
        Due.is("none still", x.count(1), 0);
    }

    private static void time() {
        PowerRails x = Due.of("rail a 2 5;");
        Due.is("least at first", x.is(0, 3), 2);
        Due.is("to most", x.time(0, 5), 2);
        Due.is("is", x.is(0, 3), 5);
        Due.is("above", x.time(0, 6), PowerRails.BAD);
        Due.is("below", x.time(0, 1), PowerRails.BAD);
        Due.is("no rail 1", x.time(1, 2), PowerRails.BAD);
        Due.is("no rail -1", x.time(-1, 2), PowerRails.BAD);
        Due.is("stays", x.is(0, 3), 5);
        x.key(true);
        x.go(5);
        Due.is("rises yet", x.is(0, 0), 2);
        Due.is("to four while it rises", x.time(0, 4), 5);
        x.go(1);
        Due.is("good", x.is(0, 0), 3);
        x = Due.of("rail a 2 5;");
        x.time(0, 5);
        x.key(true);
        x.go(5);
        x.time(0, 3);
        x.go(1);
        Due.is("has risen longer than it takes now", x.is(0, 0), 3);
    }

    private static void go() {
        PowerRails x = Due.of("rail a 1 1;");
        Due.is("0 ticks", x.go(0), PowerRails.BAD);
        Due.is("-1 ticks", x.go(-1), PowerRails.BAD);
        Due.is("1000 ticks", x.go(1000), PowerRails.BAD);
        Due.is("none went", x.now(0), 0);
        Due.is("999", x.go(999), 0);
        Due.is("tick", x.now(0), 999);
        Due.is("off since", x.is(0, 1), 999);
        x.key(true);
        x.go(1);
        Due.is("happened at", x.happened(0, 0), 999);
        Due.is("rises since", x.is(0, 1), 1);
    }

    private static void waitsAndRises() {
        PowerRails x = Due.of("rail a 2 2 wait 3 draw 4 7;");
        x.key(true);
        x.go(3);
        Due.is("waits", x.is(0, 0), 1);
        Due.is("since", x.is(0, 1), 3);
        Due.is("draws nothing", x.now(3), 0);
        x.go(1);
        Due.is("rises", x.is(0, 0), 2);
        Due.is("rising bits", x.now(2), 1);
        Due.is("draws", x.now(3), 7);
        x.go(2);
        Due.is("good", x.is(0, 0), 3);
        Due.is("good bits", x.now(1), 1);
        Due.is("draws less", x.now(3), 4);
        Due.is("the greatest", x.now(6), 7);
        Due.is("once", x.is(0, 4), 1);
        happened(x, 0, new int[][] {{0, 0, 1}, {3, 0, 2}, {5, 0, 3}});
        PowerRails y = Due.of("rail a 2 2 wait 3;");
        y.key(true);
        y.go(2);
        y.key(false);
        y.go(1);
        Due.is("waits no more", y.is(0, 0), 0);
        happened(y, 0, new int[][] {{0, 0, 1}, {2, 0, 0}});
    }

    private static void roundsWithinATick() {
        PowerRails x = Due.of("rail a 1 1 when b;rail b 1 1;rail c 1 1 when b;");
        x.key(true);
        x.go(3);
        happened(x, 0, new int[][] {{0, 1, 1}, {0, 1, 2}, {1, 1, 3}, {1, 0, 1}, {1, 2, 1}, {1, 0, 2}, {1, 2, 2},
            {2, 0, 3}, {2, 2, 3}});
        x.key(false);
        x.go(1);
        happened(x, 9, new int[][] {{3, 1, 4}, {3, 0, 4}, {3, 2, 4}});
    }

    private static void fallsGoOnToOff() {
        PowerRails x = Due.of("rail a 1 1 fall 3;");
        x.key(true);
        x.go(2);
        x.key(false);
        x.go(1);
        x.key(true);
        x.go(2);
        Due.is("falls though it may", x.is(0, 0), 4);
        Due.is("since", x.is(0, 1), 3);
        x.go(1);
        Due.is("rises again", x.is(0, 0), 2);
        x.go(1);
        Due.is("twice good", x.is(0, 4), 2);
        happened(x, 3, new int[][] {{2, 0, 4}, {5, 0, 0}, {5, 0, 1}, {5, 0, 2}, {6, 0, 3}});
    }

    private static void fallOfZero() {
        PowerRails x = Due.of("rail a 1 1 fall 0;");
        x.key(true);
        x.go(2);
        x.dead(0, true);
        x.go(1);
        happened(x, 3, new int[][] {{2, 0, 4}, {2, 0, 0}, {2, 0, 1}, {2, 0, 2}});
        x.dead(0, false);
        x.go(1);
        Due.is("good again", x.is(0, 0), 3);
        x.key(false);
        x.go(1);
        Due.is("off at once", x.is(0, 0), 0);
    }

    private static void overLimit() {
        PowerRails x = Due.of("rail a 1 1 draw 5 5;rail b 1 1 draw 6 5 when a;limit 10;");
        x.key(true);
        Due.is("at the limit is below", x.go(2), 0);
        Due.is("ten", x.now(3), 10);
        Due.is("above", x.go(1), 1);
        Due.is("as it was looked at", x.now(3), 11);
        Due.is("the greatest", x.now(6), 11);
        Due.is("in all", x.now(8), 1);
        Due.is("for good", x.now(4), PowerRails.NONE);
        Due.is("none good", x.now(1), 0);
        Due.is("falls since", x.is(0, 1), 1);
        happened(x, 5, new int[][] {{2, 1, 3}, {2, PowerRails.NONE, 6}, {2, 0, 4}, {2, 1, 4}});
        x.go(1);
        Due.is("nothing drawn", x.now(3), 0);
        Due.is("the greatest stays", x.now(6), 11);
    }

    private static void tooLate() {
        PowerRails x = Due.of("rail a 5 5 within 3;");
        x.key(true);
        Due.is("not yet", x.go(3), 0);
        Due.is("too late", x.go(1), 1);
        x.go(1);
        happened(x, 0, new int[][] {{0, 0, 1}, {0, 0, 2}, {3, PowerRails.NONE, 7}, {3, 0, 4}, {4, 0, 0}});
        PowerRails y = Due.of("rail a 3 3 within 3;");
        y.key(true);
        Due.is("just in time", y.go(9), 0);
        Due.is("good", y.now(1), 1);
    }

    private static void tooLateWhileWaiting() {
        PowerRails x = Due.of("rail a 1 1 wait 5 within 2;");
        x.key(true);
        Due.is("waits too long", x.go(3), 1);
        happened(x, 0, new int[][] {{0, 0, 1}, {2, PowerRails.NONE, 7}, {2, 0, 0}});
        PowerRails y = Due.of("rail a 2 2 wait 2 within 3;");
        y.key(true);
        Due.is("both together", y.go(3), 0);
        Due.is("three of them", y.go(1), 1);
        PowerRails z = Due.of("rail a 2 2 wait 2 within 4;");
        z.key(true);
        Due.is("four are enough", z.go(9), 0);
    }

    private static void bothTripsAtOnce() {
        PowerRails x = Due.of("rail a 3 3 draw 0 5 within 1;rail b 1 1 draw 9 1;limit 9;retry 5 9;");
        x.key(true);
        Due.is("one trip", x.go(2), 1);
        Due.is("one try", x.now(5), 4);
        Due.is("the first that fits", x.happened(5, 2), 6);
    }

    private static void triesAgain() {
        PowerRails x = Due.of("rail a 1 1 draw 1 9;limit 8;retry 2 1;");
        Due.is("tries", x.now(5), 2);
        x.key(true);
        Due.is("once", x.go(1), 1);
        Due.is("held no more", x.now(4), 0);
        Due.is("one left", x.now(5), 1);
        Due.is("twice", x.go(1), 1);
        Due.is("thrice", x.go(1), 1);
        Due.is("for good", x.now(4), PowerRails.NONE);
        Due.is("none left", x.now(5), 0);
        Due.is("no more", x.go(50), 0);
        Due.is("in all", x.now(8), 3);
        PowerRails y = Due.of("rail a 1 1 draw 1 9;limit 8;retry 9 99;");
        y.key(true);
        Due.is("many", y.go(200), 3);
        Due.is("held from here on", y.now(4), 97);
        Due.is("six left", y.now(5), 6);
    }

    private static void heldForGood() {
        PowerRails x = Due.of("rail a 1 1 draw 1 9;limit 8;");
        x.key(true);
        x.go(1);
        x.key(true);
        Due.is("turned on does not help", x.now(4), PowerRails.NONE);
        x.go(5);
        Due.is("off", x.is(0, 0), 0);
        x.key(false);
        Due.is("not held", x.now(4), 0);
        x.key(true);
        Due.is("again", x.go(1), 1);
    }

    private static void keyOffAndTries() {
        PowerRails x = Due.of("rail a 1 1 draw 1 9;limit 8;retry 2 6;");
        x.key(true);
        x.go(2);
        Due.is("held", x.now(4), 4);
        x.key(false);
        Due.is("all tries back", x.now(5), 2);
        Due.is("held for its ticks all the same", x.now(4), 4);
        x.key(true);
        Due.is("not before", x.go(4), 0);
        Due.is("then again", x.go(1), 1);
        Due.is("one used up", x.now(5), 1);
    }

    private static void latchedWithoutKey() {
        PowerRails x = Due.of("rail a 1 1;rail b 1 1 when a | b;rail c 1 1 within 2 when b;");
        x.key(true);
        x.go(4);
        x.key(false);
        x.go(3);
        Due.is("b holds itself", x.now(1), 6);
        x.dead(2, true);
        Due.is("c comes too late", x.go(9), 1);
        Due.is("for good", x.now(4), PowerRails.NONE);
        Due.is("all off", x.now(1), 0);
        x.key(false);
        Due.is("turned off though it is off", x.now(4), 0);
    }

    private static void deadOnesRiseForEver() {
        PowerRails x = Due.of("rail a 1 1 draw 3 8;");
        x.dead(0, true);
        x.key(true);
        x.go(20);
        Due.is("rises", x.is(0, 0), 2);
        Due.is("since", x.is(0, 1), 20);
        Due.is("draws", x.now(3), 8);
        x.dead(0, false);
        x.go(1);
        Due.is("good", x.is(0, 0), 3);
    }

    private static void nowAndIsRefuse() {
        PowerRails x = Due.of("rail a 1 1;");
        x.key(true);
        x.go(1);
        Due.is("now 9", x.now(9), -9);
        Due.is("now -1", x.now(-1), -9);
        Due.is("is 5", x.is(0, 5), PowerRails.BAD);
        Due.is("is -1", x.is(0, -1), PowerRails.BAD);
        Due.is("no rail 1", x.is(1, 0), PowerRails.BAD);
        Due.is("no rail -1", x.is(-1, 0), PowerRails.BAD);
        Due.is("happening -1", x.happened(-1, 0), PowerRails.BAD);
        Due.is("happening 2", x.happened(2, 0), PowerRails.BAD);
        Due.is("happened 3", x.happened(0, 3), PowerRails.BAD);
        Due.is("happened -1", x.happened(0, -1), PowerRails.BAD);
    }

    private static void historyIsFull() {
        PowerRails x = Due.of("rail a 1 1;");
        for (int i = 0; i < 20; i++) {
            x.key(i % 2 == 0);
            x.go(2);
        }
        // Five in four ticks: waits, rises, good, falls, off.
        Due.is("fifty", x.count(2), 50);
        for (int i = 0; i < 20; i++) {
            x.key(i % 2 == 0);
            x.go(2);
        }
        Due.is("sixty-four", x.count(2), 64);
        Due.is("the last kept", x.happened(63, 2), 4);
        Due.is("its tick", x.happened(63, 0), 50);
        Due.is("none behind", x.happened(64, 0), PowerRails.BAD);
        Due.is("good all the same", x.is(0, 4), 20);
    }

    private static void adoptedWaitsGoOn() {
        PowerRails x = Due.of("rail a 1 1 wait 5;");
        x.key(true);
        x.go(3);
        Due.is("adopted", x.adopt(), 1);
        Due.is("waits on", x.is(0, 0), 1);
        Due.is("since", x.is(0, 1), 3);
        x.go(1);
        Due.is("has waited so long", x.is(0, 0), 2);
    }
}
