/** Promises 17 to 23: what can be up, when, which ahead, what is drawn, the peak, the stagger. */
public final class SureTest {
    private static final String FORK =
        "rail a 1 3;rail b 2 2 wait 1;rail c 1 2 draw 5 9 when a & b;rail d 3 3 draw 7 1 when a | b;limit 20;";

    public static void main(String[] args) {
        up();
        upWithDead();
        when();
        whenOfRings();
        ahead();
        aheadRefuses();
        aheadAfterChanges();
        drawn();
        peak();
        peakOfAllTimes();
        peakRefuses();
        stagger();
        staggerLeastRow();
        staggerRefuses();
        adopt();
        mostWays();
        longestChain();
        Due.close();
    }

    private static void up() {
        PowerRails x = Due.of("rail a 1 1 when b;rail b 1 1 when a;rail c 1 1 when a | key;rail d 1 1 when c & b;");
        Due.is("up", x.up(0), 4);
        Due.is("ring", x.up(1), 11);
        Due.is("never", x.up(2), 11);
        Due.is("3", x.up(3), PowerRails.BAD);
        Due.is("-1", x.up(-1), PowerRails.BAD);
        PowerRails y = Due.of("rail a 1 1 when a;rail b 1 1 when b | key;");
        Due.is("waits for itself", y.up(0), 2);
        Due.is("the key is taken as on", y.now(7), 0);
    }

    private static void upWithDead() {
        PowerRails x = Due.of("rail a 1 1;rail b 1 1 when a;rail c 1 1 when b;rail d 1 1 when d;");
        x.dead(1, true);
        Due.is("up", x.up(0), 1);
        Due.is("ring: c and d", x.up(1), 12);
        Due.is("never, though none were dead", x.up(2), 8);
    }

    private static void when() {
        PowerRails x = Due.of(FORK);
        int[][] due = {{1, 1, 3}, {3, 3, 3}, {4, 4, 5}, {4, 4, 6}};
        for (int r = 0; r < 4; r++) {
            for (int what = 0; what < 3; what++) {
                Due.is("when " + r + " " + what, x.when(r, what), due[r][what]);
            }
        }
        x.time(0, 2);
        x.time(2, 2);
        Due.is("by times a", x.when(0, 0), 2);
        Due.is("by times c", x.when(2, 0), 5);
        Due.is("by times d", x.when(3, 0), 5);
        Due.is("least all the same", x.when(3, 1), 4);
        Due.is("what 3", x.when(0, 3), PowerRails.BAD);
        Due.is("what -1", x.when(0, -1), PowerRails.BAD);
        Due.is("no rail 4", x.when(4, 0), PowerRails.BAD);
        Due.is("no rail -1", x.when(-1, 0), PowerRails.BAD);
        x.dead(0, true);
        Due.is("dead", x.when(0, 0), PowerRails.NONE);
        Due.is("c without a", x.when(2, 2), PowerRails.NONE);
        Due.is("d by b", x.when(3, 1), 6);
        x.key(true);
        x.go(50);
        Due.is("as it goes does not matter", x.when(3, 1), 6);
    }

    private static void whenOfRings() {
        PowerRails x = Due.of("rail a 4 4 when b | key;rail b 1 1 when a | c;rail c 1 1 wait 1;rail d 1 1 when a & b & c;");
        Due.is("a", x.when(0, 0), 4);
        Due.is("b by c", x.when(1, 0), 3);
        Due.is("d by the latest", x.when(3, 0), 5);
    }

    private static void ahead() {
        PowerRails x = Due.of(FORK);
        Due.is("a and b: at the same tick or ahead", x.ahead(0, 1, 0), 1);
        Due.is("b is never ahead of a", x.ahead(0, 1, 1), 0);
        Due.is("b before a: not always", x.ahead(1, 0, 0), 0);
        Due.is("a two ahead", x.ahead(1, 0, 1), 2);
        Due.is("a ahead of c", x.ahead(0, 2, 0), 2);
        Due.is("by one at least", x.ahead(0, 2, 1), -1);
        Due.is("b ahead of c", x.ahead(1, 2, 1), -1);
        Due.is("c and d", x.ahead(2, 3, 0), 0);
        Due.is("c later than d", x.ahead(2, 3, 1), 1);
        Due.is("d later than c", x.ahead(3, 2, 1), 2);
    }

    private static void aheadRefuses() {
        PowerRails x = Due.of("rail a 1 1;rail b 1 1 when b;rail c 1 1 when a;");
        Due.is("one and the same", x.ahead(0, 0, 0), -1000);
        Due.is("no rail 3", x.ahead(0, 3, 0), -1000);
        Due.is("no rail -1", x.ahead(-1, 0, 0), -1000);
        Due.is("what 2", x.ahead(0, 2, 2), -1000);
        Due.is("what -1", x.ahead(0, 2, -1), -1000);
        Due.is("not up", x.ahead(0, 1, 0), -1004);
        Due.is("not up either", x.ahead(1, 0, 1), -1004);
        PowerRails y = Due.of("rail a 1 9;rail b 1 9;rail c 1 9;rail d 1 9;rail e 1 9;rail f 1 1 when f;");
        Due.is("too many ways", y.ahead(0, 1, 0), -1002);
        Due.is("too many ways, not up", y.ahead(0, 5, 0), -1002);
        Due.is("too many ways, one and the same", y.ahead(1, 1, 0), -1000);
    }

    private static void aheadAfterChanges() {
        PowerRails x = Due.of("rail a 2 4;rail b 3 3;rail c 1 1 when a | b;");
        Due.is("c behind b", x.ahead(2, 1, 1), 1);
        x.dead(0, true);
        Due.is("c behind b without a", x.ahead(2, 1, 0), 0);
        Due.is("a is dead", x.ahead(2, 0, 1), -1004);
        x.dead(0, false);
        Due.is("c behind a", x.ahead(2, 0, 1), 1);
        x.time(0, 4);
        Due.is("times do not matter", x.ahead(2, 0, 1), 1);
        Due.tell(x, "rail a 1 1 wait 9;rail b 1 1;rail c 1 1 when a;");
        Due.is("c behind b by a's wait", x.ahead(2, 1, 1), 10);
        x.adopt();
        Due.is("adopted waits", x.ahead(2, 1, 1), 1);
    }

    private static void drawn() {
        PowerRails x = Due.of(FORK);
        // a rises 0, good 1; b rises 1, good 3; d rises 1, good 4; c rises 3, good 4.
        int[] due = {2, 4, 4, 12, 14, 14};
        for (int t = 0; t < due.length; t++) {
            Due.is("drawn " + t, x.drawn(t), due[t]);
        }
        Due.is("drawn 999", x.drawn(999), 14);
        Due.is("drawn 1000", x.drawn(1000), PowerRails.BAD);
        Due.is("drawn -1", x.drawn(-1), PowerRails.BAD);
        x.dead(0, true);
        Due.is("the dead draw nothing", x.drawn(0), 0);
    }

    private static void peak() {
        PowerRails x = Due.of(FORK);
        Due.is("peak", x.peak(0), 14);
        Due.is("first tick", x.peak(1), 4);
        PowerRails y = Due.of("rail a 1 1 wait 4 draw 0 0;");
        Due.is("of nothing", y.peak(0), 0);
        Due.is("at once", y.peak(1), 0);
        PowerRails z = Due.of("rail a 2 2 wait 3 draw 4 4;");
        Due.is("four", z.peak(0), 4);
        Due.is("when it rises", z.peak(1), 3);
    }

    private static void peakOfAllTimes() {
        PowerRails x = Due.of("rail a 1 3 draw 1 10;rail b 3 3 draw 1 3;rail c 1 1 draw 1 10 when b;");
        Due.is("by times", x.peak(0), 13);
        Due.is("greatest", x.peak(2), 13);
        Due.is("least", x.peak(3), 13);
        Due.tell(x, "rail a 1 4 draw 1 10;rail b 3 3 draw 1 3;rail c 1 1 draw 1 10 when b;");
        Due.is("greatest, a and c at once", x.peak(2), 21);
        Due.is("least, one by one", x.peak(3), 13);
        x.dead(2, true);
        Due.is("greatest without c", x.peak(2), 13);
        x.dead(2, false);
        x.dead(0, true);
        Due.is("greatest without a", x.peak(2), 11);
    }

    private static void peakRefuses() {
        PowerRails x = Due.of("rail a 1 9;rail b 1 9;rail c 1 9;rail d 1 9;rail e 1 9;");
        Due.is("by times", x.peak(0), 10);
        Due.is("too many ways 2", x.peak(2), PowerRails.STATE);
        Due.is("too many ways 3", x.peak(3), PowerRails.STATE);
        Due.is("4", x.peak(4), PowerRails.BAD);
        Due.is("-1", x.peak(-1), PowerRails.BAD);
        for (int r = 0; r < 5; r++) {
            x.dead(r, true);
        }
        Due.is("none up", x.peak(0), PowerRails.NONE);
        Due.is("none up 1", x.peak(1), PowerRails.NONE);
        Due.is("none up, too many ways", x.peak(2), PowerRails.STATE);
        PowerRails y = Due.of("rail a 1 1 when a;");
        Due.is("none up 2", y.peak(2), PowerRails.NONE);
        Due.is("none up 3", y.peak(3), PowerRails.NONE);
    }

    private static void stagger() {
        PowerRails x = Due.of("rail a 2 2 draw 1 9;rail b 1 1 draw 1 9;rail c 1 1 draw 1 2;limit 13;");
        // a and b may not rise together: b first is up at 1 + 2, a first at 2 + 1; the least row has a first.
        Due.is("last", x.stagger(0), 3);
        Due.is("a", x.stagger(10), 0);
        Due.is("b", x.stagger(11), 2);
        Due.is("c", x.stagger(12), 0);
        x.dead(0, true);
        Due.is("without a", x.stagger(0), 1);
        Due.is("b without a", x.stagger(11), 0);
        x.dead(0, false);
        Due.tell(x, "rail a 1 3 draw 1 9;rail b 1 1 draw 1 9;limit 13;");
        Due.is("a takes 1", x.stagger(11), 1);
        x.time(0, 3);
        Due.is("a takes 3", x.stagger(0), 4);
        Due.is("a behind b would be later in the row", x.stagger(10), 0);
        Due.is("b behind a", x.stagger(11), 3);
    }

    private static void staggerLeastRow() {
        PowerRails x = Due.of("rail a 1 1 wait 9 draw 0 5;rail b 1 1 draw 0 5;rail c 1 1 draw 0 5;rail d 1 1 when d;limit 5;");
        Due.is("last", x.stagger(0), 3);
        Due.is("a", x.stagger(10), 0);
        Due.is("b", x.stagger(11), 1);
        Due.is("c", x.stagger(12), 2);
        Due.is("d, which is not up", x.stagger(13), 0);
    }

    private static void staggerRefuses() {
        PowerRails x = Due.of("rail a 1 1 draw 1 9;limit 8;");
        Due.is("no waits do", x.stagger(0), PowerRails.NONE);
        Due.is("no waits do for a", x.stagger(10), PowerRails.NONE);
        Due.is("adopt none", x.adopt(), PowerRails.NONE);
        Due.is("1", x.stagger(1), PowerRails.BAD);
        Due.is("9", x.stagger(9), PowerRails.BAD);
        Due.is("11", x.stagger(11), PowerRails.BAD);
        Due.is("-1", x.stagger(-1), PowerRails.BAD);
        PowerRails y = Due.of("rail a 1 1;rail b 1 1;rail c 1 1;rail d 1 1;rail e 1 1;rail f 1 1;rail g 1 1;");
        Due.is("seven", y.stagger(0), PowerRails.STATE);
        Due.is("g of seven", y.stagger(16), PowerRails.STATE);
        Due.is("h of seven", y.stagger(17), PowerRails.BAD);
        Due.is("adopt seven", y.adopt(), PowerRails.STATE);
        PowerRails z = Due.of("rail a 1 1 draw 0 1;rail b 1 1 draw 0 1;rail c 1 1 draw 0 1;rail d 1 1 draw 0 1;"
            + "rail e 1 1 draw 0 1;rail f 1 1 draw 0 1;limit 2;");
        Due.is("six", z.stagger(0), 3);
        int[] row = {0, 0, 1, 1, 2, 2};
        for (int r = 0; r < 6; r++) {
            Due.is("six " + r, z.stagger(10 + r), row[r]);
        }
        Due.is("adopt six", z.adopt(), 3);
        Due.is("the last of six", z.rail(5, 5), 2);
        PowerRails w = Due.of("rail a 1 1 when a;");
        Due.is("none up", w.stagger(0), PowerRails.NONE);
        Due.is("none up for a", w.stagger(10), PowerRails.NONE);
        PowerRails v = Due.of("rail a 1 1 draw 0 1;rail b 1 1 draw 0 1;rail c 1 1 draw 0 1;rail d 1 1 draw 0 1;"
            + "rail e 1 1 draw 0 1;limit 1;");
        Due.is("waits above 3 are none", v.stagger(0), PowerRails.NONE);
    }

    private static void adopt() {
        PowerRails x = Due.of("rail a 1 1 wait 7 draw 1 9;rail b 1 1 draw 1 9;rail c 1 1 wait 5 when c;limit 13;");
        Due.is("peak before", x.peak(0), 10);
        Due.is("stagger leaves waits", x.stagger(0), 2);
        Due.is("a before", x.rail(0, 5), 7);
        Due.is("adopted", x.adopt(), 2);
        Due.is("a", x.rail(0, 5), 0);
        Due.is("b", x.rail(1, 5), 1);
        Due.is("c", x.rail(2, 5), 0);
        Due.is("when", x.when(1, 0), 2);
        Due.is("again", x.adopt(), 2);
        Due.is("stagger again", x.stagger(11), 1);
    }

    private static void mostWays() {
        PowerRails x = Due.of("rail a 1 8;rail b 1 4;rail c 1 5;rail d 1 5;rail e 1 5;rail f 1 5;");
        Due.is("20000 ways", x.count(3), 20000);
        Due.is("ahead by them", x.ahead(0, 1, 1), 7);
        Due.is("peak by them", x.peak(2), 12);
        Due.tell(x, "rail a 1 3;rail b 1 9;rail c 1 9;rail d 1 9;rail e 1 9;rail f 1 2;");
        Due.is("39366 ways", x.count(3), PowerRails.SPENT);
        Due.is("not by them", x.ahead(0, 1, 1), -1002);
    }

    private static String chain(String draw) {
        StringBuilder s = new StringBuilder("rail a 9 9 wait 9;");
        for (char c = 'b'; c <= 'h'; c++) {
            s.append("rail ").append(c).append(" 9 9 wait 9 draw ").append(draw);
            s.append(" when ").append((char) (c - 1)).append(';');
        }
        return s.toString();
    }

    private static void longestChain() {
        PowerRails x = Due.of(chain("1 99"));
        Due.is("the last", x.when(7, 2), 144);
        Due.is("peak", x.peak(0), 106);
        Due.is("its tick", x.peak(1), 135);
        Due.is("by all times", x.peak(2), 106);
        Due.is("ahead", x.ahead(0, 7, 1), -126);
        Due.is("drawn at the end", x.drawn(144), 8);
        x.key(true);
        x.go(144);
        Due.is("rises as it goes", x.is(7, 0), 2);
        x.go(1);
        Due.is("good as it goes", x.now(1), 255);
        PowerRails y = Due.of(chain("99 1"));
        Due.is("peak at the last tick", y.peak(0), 694);
        Due.is("which is", y.peak(1), 144);
        Due.is("least by all times", y.peak(3), 694);
    }
}
