/** The boundary cases of DOWN, CUT, NEED, SEEN and of promises 24 to 28, each sentence by itself. */
public final class DeathEdgeTest {
    private static final int BAD = PowerRails.BAD, STATE = PowerRails.STATE, NONE = PowerRails.NONE;
    private static final int[] FAR = {Integer.MIN_VALUE, -1, 8, 31, 32, Integer.MAX_VALUE};
    private static final String CHAIN = "rail a 1 1;rail b 1 1 when a;rail c 1 1 when b;rail d 1 1 when c;"
        + "rail e 1 1 when d;rail f 1 1 when e;rail g 1 1 when f;rail h 1 1 when g;";
    /** Each of a to g is enough for h. */
    private static final String FAN = "rail a 1 1;rail b 1 1;rail c 1 1;rail d 1 1;rail e 1 1;rail f 1 1;rail g 1 1;"
        + "rail h 1 1 when a|b|c|d|e|f|g;";
    private static final String RING = "rail a 1 1;rail b 1 1 when c;rail c 1 1 when b;";

    public static void main(String[] args) {
        downOfSets();
        downWithoutAndWith();
        downCountsDead();
        downRefuses();
        cutFewest();
        cutNotItself();
        cutLeastBits();
        cutState();
        cutRefuses();
        needFewest();
        needLeastBits();
        needItself();
        needState();
        needRefuses();
        mustNeverUp();
        mustState();
        mustRefuses();
        deadByHand();
        seenOneAlone();
        seenNone();
        seenDeadByHand();
        seenRefuses();
        timesDoNotMatter();
        Due.close();
    }

    private static void downOfSets() {
        Due.says("DOWN by a set of RAILS that die (bits): these (bits).");
        PowerRails x = Due.of(CHAIN);
        Due.is("by none", x.down(0), 0);
        Due.is("by all", x.down(255), 255);
        for (int r = 0; r < 8; r++) {
            Due.is("by " + r, x.down(1 << r), 255 & -(1 << r));
        }
        PowerRails y = Due.of(FAN);
        Due.is("by six of seven", y.down(63), 63);
        Due.is("by seven", y.down(127), 255);
        Due.is("by the last", y.down(128), 128);
        Due.is("of no rails", new PowerRails().down(0), 0);
    }

    private static void downWithoutAndWith() {
        Due.says("DOWN by DEAD ones: RAILS that are UP without them and not with them");
        PowerRails x = Due.of(RING);
        Due.is("by one in a ring", x.down(2), 0);
        Due.is("by all", x.down(7), 1);
        Due.is("they stay as they are", x.count(1), 0);
        Due.is("up still", x.up(0), 1);
    }

    private static void downCountsDead() {
        Due.says("(those that are DEAD by hand count in both)");
        PowerRails x = Due.of(FAN);
        for (int r = 0; r < 6; r++) {
            x.dead(r, true);
        }
        Due.is("by the seventh", x.down(64), 192);
        Due.is("by those that are dead", x.down(63), 0);
        Due.is("by all", x.down(255), 192);
        x.dead(6, true);
        Due.is("none is up", x.down(255), 0);
        for (int r = 0; r < 7; r++) {
            x.dead(r, false);
        }
        Due.is("none dead any more", x.down(64), 64);
    }

    private static void downRefuses() {
        Due.says("down: BAD.");
        PowerRails x = Due.of(CHAIN);
        for (int some : new int[] {256, 257, 511, 512, -1, Integer.MIN_VALUE, Integer.MAX_VALUE, 1 << 30}) {
            Due.is("down by " + some, x.down(some), BAD);
        }
        PowerRails y = Due.of(RING);
        Due.is("the last", y.down(4), 0);
        for (int bit = 8; bit <= 128; bit *= 2) {
            Due.is("no such rail " + bit, y.down(bit), BAD);
            Due.is("no such rail among others " + bit, y.down(bit | 7), BAD);
        }
        Due.is("no rails", new PowerRails().down(1), BAD);
    }

    private static void cuts(String text, int r, int many, int these) {
        PowerRails x = Due.of(text);
        Due.is("cut of " + r + ": how many", x.cut(r, 0), many);
        Due.is("cut of " + r + ": these", x.cut(r, 1), these);
    }

    private static void cutFewest() {
        Due.says("CUT of a RAIL: the fewest RAILS (not itself) by whose death it is not UP");
        cuts(FAN, 7, 7, 127);
        cuts(CHAIN, 7, 1, 1);
        cuts("rail a 1 1;rail b 1 1;rail c 1 1 when a&b;", 2, 1, 1);
        cuts("rail a 1 1;rail b 1 1;rail c 1 1 when a|b;", 2, 2, 3);
        cuts("rail a 1 1;rail b 1 1;rail c 1 1;rail d 1 1 when a&b|b&c|a&c;", 3, 2, 3);
        // One high bit is fewer than two low ones.
        cuts("rail a 1 1;rail b 1 1;rail c 1 1 when (a|b)&d;rail d 1 1;", 2, 1, 8);
    }

    private static void cutNotItself() {
        Due.says("NONE: no others' death does that");
        cuts("rail a 1 1;", 0, NONE, NONE);
        cuts("rail a 1 1 when a|key;", 0, NONE, NONE);
        cuts("rail a 1 1;rail b 1 1 when a|key;", 1, NONE, NONE);
        cuts(CHAIN, 0, NONE, NONE);
    }

    private static void cutLeastBits() {
        Due.says("of several the least bits");
        cuts("rail a 1 1;rail b 1 1;rail c 1 1 when b&a;", 2, 1, 1);
        cuts("rail a 1 1 when g&h;rail b 1 1;rail c 1 1;rail d 1 1;rail e 1 1;rail f 1 1;rail g 1 1;rail h 1 1;", 0, 1, 64);
        cuts("rail a 1 1;rail b 1 1;rail c 1 1;rail d 1 1;rail e 1 1 when (a|b)&(c|d);", 4, 2, 3);
        cuts("rail a 1 1;rail b 1 1;rail c 1 1;rail d 1 1;rail e 1 1 when (a|d)&(b|c);", 4, 2, 6);
    }

    private static void cutState() {
        Due.says("cut: STATE: it is not UP.");
        cuts(RING, 1, STATE, STATE);
        PowerRails x = Due.of("rail a 1 1;rail b 1 1 when a;");
        x.dead(0, true);
        Due.is("dead, by no others", x.cut(0, 0), STATE);
        Due.is("behind a dead one", x.cut(1, 1), STATE);
        x.dead(0, false);
        Due.is("no more", x.cut(1, 1), 1);
    }

    private static void cutRefuses() {
        Due.says("cut: BAD");
        PowerRails x = Due.of(RING);
        for (int far : FAR) {
            Due.is("rail " + far, x.cut(far, 0), BAD);
            Due.is("what " + far, x.cut(0, far), BAD);
            Due.is("what of one that is not up " + far, x.cut(1, far), BAD);
        }
        Due.is("rail 3", x.cut(3, 0), BAD);
        Due.is("what 2", x.cut(0, 2), BAD);
    }

    private static void needs(String text, int r, int many, int these) {
        PowerRails x = Due.of(text);
        Due.is("need of " + r + ": how many", x.need(r, 0), many);
        Due.is("need of " + r + ": these", x.need(r, 1), these);
    }

    private static void needFewest() {
        Due.says("NEED: the fewest RAILS that must not be DEAD (itself among them) so that it is UP though all others are");
        needs(CHAIN, 7, 8, 255);
        needs(CHAIN, 3, 4, 15);
        needs(FAN, 7, 2, 129);
        needs("rail a 1 1;rail b 1 1 when a;rail c 1 1 when b|d;rail d 1 1;", 2, 2, 12);
        needs("rail a 1 1;rail b 1 1;rail c 1 1 when a&b|key;", 2, 1, 4);
    }

    private static void needLeastBits() {
        Due.says("NEED: likewise (of several the least bits)");
        needs("rail a 1 1;rail b 1 1;rail c 1 1 when b|a;", 2, 2, 5);
        needs("rail a 1 1 when h|g;rail b 1 1;rail c 1 1;rail d 1 1;rail e 1 1;rail f 1 1;rail g 1 1;rail h 1 1;", 0, 2, 65);
        needs("rail a 1 1;rail b 1 1;rail c 1 1;rail d 1 1;rail e 1 1 when a&d|b&c;", 4, 3, 22);
    }

    private static void needItself() {
        Due.says("NEED: (itself among them)");
        needs("rail a 1 1;", 0, 1, 1);
        needs("rail a 1 1 when a|key;", 0, 1, 1);
        needs(CHAIN, 0, 1, 1);
    }

    private static void needState() {
        Due.says("need: STATE: it is not UP.");
        needs(RING, 2, STATE, STATE);
        PowerRails x = Due.of("rail a 1 1;rail b 1 1 when a;");
        x.dead(0, true);
        Due.is("dead", x.need(0, 0), STATE);
        Due.is("behind a dead one", x.need(1, 1), STATE);
    }

    private static void needRefuses() {
        Due.says("need: BAD");
        PowerRails x = Due.of(RING);
        for (int far : FAR) {
            Due.is("rail " + far, x.need(far, 0), BAD);
            Due.is("what " + far, x.need(0, far), BAD);
            Due.is("what of one that is not up " + far, x.need(1, far), BAD);
        }
        Due.is("rail 3", x.need(3, 0), BAD);
        Due.is("what 2", x.need(0, 2), BAD);
    }

    private static void mustNeverUp() {
        Due.says("RAILS without which a RAIL is never UP (bits; itself too).");
        PowerRails x = Due.of(CHAIN);
        for (int r = 0; r < 8; r++) {
            Due.is("of the chain " + r, x.must(r), (2 << r) - 1);
        }
        Due.is("of the fan", Due.of(FAN).must(7), 128);
        Due.is("of the key", Due.of("rail a 1 1;").must(0), 1);
        Due.is("by two ways", Due.of("rail a 1 1;rail b 1 1 when a;rail c 1 1 when a;rail d 1 1 when b|c;").must(3), 9);
    }

    private static void mustState() {
        Due.says("must: STATE: it is not UP.");
        PowerRails x = Due.of(RING);
        Due.is("in a ring", x.must(1), STATE);
        x.dead(0, true);
        Due.is("dead", x.must(0), STATE);
        x.dead(0, false);
        Due.is("no more", x.must(0), 1);
    }

    private static void mustRefuses() {
        Due.says("must: BAD");
        PowerRails x = Due.of(RING);
        for (int far : FAR) {
            Due.is("rail " + far, x.must(far), BAD);
        }
        Due.is("rail 3", x.must(3), BAD);
        Due.is("none there", new PowerRails().must(0), BAD);
    }

    private static void deadByHand() {
        Due.says("UP: RAILS that are not DEAD ..");
        PowerRails x = Due.of("rail a 1 1;rail b 1 1;rail c 1 1;rail d 1 1 when a|b|c;");
        x.dead(1, true);
        Due.is("cut: without the dead one", x.cut(3, 1), 5);
        Due.is("need", x.need(3, 1), 9);
        x.dead(0, true);
        Due.is("cut: the only one left", x.cut(3, 1), 4);
        Due.is("need: the only one left", x.need(3, 1), 12);
        Due.is("must: the only one left", x.must(3), 12);
    }

    private static void seenOneAlone() {
        Due.says("SEEN: RAILS of which one alone being DEAD explains it (bits; 256: none being DEAD does)");
        PowerRails x = Due.of(CHAIN);
        for (int r = 0; r < 8; r++) {
            Due.is("up to " + r, x.seen((1 << r) - 1), 1 << r);
        }
        Due.is("all", x.seen(255), 256);
        PowerRails y = Due.of(FAN);
        Due.is("two are dead", y.seen(252), 0);
        Due.is("one is", y.seen(254), 1);
    }

    private static void seenNone() {
        Due.says("SEEN: a set of RAILS that are GOOD in the end (THE KEY on)");
        PowerRails x = Due.of(RING);
        Due.is("none, or one of the ring", x.seen(1), 256 + 6);
        Due.is("a", x.seen(0), 1);
        for (int good = 2; good <= 7; good++) {
            Due.is("that can not be " + good, x.seen(good), 0);
        }
        Due.is("of no rails", new PowerRails().seen(0), 256);
        Due.is("of a ring alone", Due.of("rail a 1 1 when a;").seen(0), 257);
    }

    private static void seenDeadByHand() {
        Due.says("(Those that are DEAD by hand do not count.)");
        PowerRails x = Due.of(CHAIN);
        for (int r = 0; r < 8; r++) {
            x.dead(r, true);
        }
        Due.is("all", x.seen(255), 256);
        Due.is("none", x.seen(0), 1);
        Due.is("they are dead all the same", x.count(1), 8);
    }

    private static void seenRefuses() {
        Due.says("seen: BAD.");
        PowerRails x = Due.of(CHAIN);
        for (int good : new int[] {256, 257, 511, 512, -1, Integer.MIN_VALUE, Integer.MAX_VALUE, 1 << 30}) {
            Due.is("seen " + good, x.seen(good), BAD);
        }
        PowerRails y = Due.of(RING);
        for (int bit = 8; bit <= 128; bit *= 2) {
            Due.is("no such rail " + bit, y.seen(bit), BAD);
            Due.is("no such rail among others " + bit, y.seen(bit | 1), BAD);
        }
        Due.is("no rails", new PowerRails().seen(1), BAD);
    }

    private static void timesDoNotMatter() {
        Due.says("SURE (by formulas alone, THE KEY on, no limit, no within ..)");
        PowerRails x = Due.of("rail a 1 9 within 1 draw 99 99;rail b 1 9 when a;limit 1;");
        for (int turn = 0; turn < 2; turn++) {
            Due.is("down", x.down(1), 3);
            Due.is("cut", x.cut(1, 1), 1);
            Due.is("need", x.need(1, 1), 3);
            Due.is("must", x.must(1), 3);
            Due.is("seen", x.seen(1), 2);
            x.key(true);
            x.time(0, 9);
            x.go(3);
        }
    }
}
