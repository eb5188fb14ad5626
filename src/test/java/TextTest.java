/** Promises 1 to 9: a new object, the tape, the text and its faults, what a text told. */
public final class TextTest {
    public static void main(String[] args) {
        newObject();
        tape();
        tapeOrder();
        texts();
        atFirst();
        faults();
        faultOrder();
        ninthRail();
        deepBrackets();
        refusedTextKeeps();
        takenTextBeginsAnew();
        textsInTurn();
        rails();
        rules();
        holds();
        words();
        Due.close();
    }

    private static void newObject() {
        PowerRails x = new PowerRails();
        Due.is("new rule 0", x.rule(0), 999);
        Due.is("new rule 1", x.rule(1), 0);
        Due.is("new rule 2", x.rule(2), 5);
        Due.is("new rule 3", x.rule(3), 0);
        for (int what = 0; what <= 4; what++) {
            Due.is("new count " + what, x.count(what), what == 3 ? 1 : 0);
        }
        Due.is("new count 5", x.count(5), PowerRails.NONE);
        for (int what = 0; what <= 8; what++) {
            Due.is("new now " + what, x.now(what), 0);
        }
        Due.is("new fault", x.fault(), 0);
        Due.is("new rail", x.rail(0, 0), PowerRails.BAD);
        Due.is("new is", x.is(0, 0), PowerRails.BAD);
        Due.is("new happened", x.happened(0, 0), PowerRails.BAD);
        Due.is("new up", x.up(0), 0);
        Due.is("new up 1", x.up(1), 0);
        Due.is("new up 2", x.up(2), 0);
        Due.is("new drawn", x.drawn(0), 0);
        Due.is("new peak", x.peak(0), PowerRails.NONE);
        Due.is("new peak 3", x.peak(3), PowerRails.NONE);
        Due.is("new stagger", x.stagger(0), PowerRails.NONE);
        Due.is("new stagger of a", x.stagger(10), PowerRails.BAD);
        Due.is("new adopt", x.adopt(), PowerRails.NONE);
        Due.is("new down", x.down(0), 0);
        Due.is("new down of a", x.down(1), PowerRails.BAD);
        Due.is("new seen", x.seen(0), 256);
        Due.is("new go", x.go(3), 0);
        Due.is("new tick", x.now(0), 3);
        for (int k = 0; k < 4; k++) {
            Due.is("new sheet " + k, x.lay(k, 0, 0), -11);
        }
    }

    private static void tape() {
        PowerRails x = new PowerRails();
        Due.is("end of nothing", x.end(0), 0);
        Due.is("end behind all", x.end(1), PowerRails.BAD);
        Due.is("end below 0", x.end(-1), PowerRails.BAD);
        for (int i = 1; i <= 50; i++) {
            Due.is("feed " + i, x.feed(0x2020202020202020L), 8 * i);
        }
        Due.is("feed a full one", x.feed(0x2020202020202020L), PowerRails.FULL);
        Due.is("stays", x.count(4), 400);
        Due.is("end at all", x.end(400), 400);
        Due.is("end at 393", x.end(393), 400);
        Due.is("feed to 401", x.feed(0x2020202020202020L), PowerRails.FULL);
        Due.is("end at 392", x.end(392), 393);
        Due.is("feed to 400", x.feed(0x2020202020202020L), 400);
        Due.is("end above", x.end(401), PowerRails.BAD);
        Due.is("end least", x.end(Integer.MIN_VALUE), PowerRails.BAD);
        Due.is("bytes", x.count(4), 400);
        Due.is("a text of blanks", x.text(), 0);
        Due.is("empty then", x.count(4), 0);
    }

    private static void tapeOrder() {
        PowerRails x = new PowerRails();
        x.feed(0x6C696D6974203132L);
        x.feed(0x3B20202020202020L);
        Due.is("highest byte first", x.text(), 1);
        Due.is("limit 12", x.rule(0), 12);
        x.feed(-1L);
        Due.is("bytes above 127", x.text(), -10);
        Due.is("are no token", x.fault(), 1);
        x.feed(0x6C696D6974203939L);
        x.feed(0x3B6C696D69742031L);
        x.end(9);
        Due.is("end cuts", x.text(), 1);
        Due.is("limit 99", x.rule(0), 99);
    }

    private static void texts() {
        PowerRails x = new PowerRails();
        Due.is("empty", x.text(), 0);
        Due.is("no blanks", Due.tell(x, "rail a1 2wait3fall0within9draw1 2when(key)&a|a;limit5;retry1 2;"), 3);
        Due.is("fault", x.fault(), 0);
        Due.is("most", x.rail(0, 1), 2);
        Due.is("wait", x.rail(0, 5), 3);
        Due.is("fall", x.rail(0, 2), 0);
        Due.is("many blanks", Due.tell(x, "   rail   a   1   2   ;   limit   007  ;   "), 2);
        Due.is("limit 007", x.rule(0), 7);
        Due.is("rules alone", Due.tell(x, "retry 9 99;limit 999;"), 2);
        Due.is("no rails", x.rule(3), 0);
        Due.is("rules between", Due.tell(x, "rail a 1 1;limit 3;rail b 1 1 when a;retry 0 1;rail c 9 9;"), 5);
        Due.is("three", x.rule(3), 3);
        Due.is("a rail told later", Due.tell(x, "rail a 1 1 when b;rail b 1 1 when key;"), 2);
        Due.is("edges", Due.tell(x, "rail a 1 9 fall 9 draw 99 99 wait 9 within 99;limit 1;retry 0 99;"), 3);
        Due.is("edges below", Due.tell(x, "rail a 9 9 within 1 wait 0 draw 0 0 fall 0;limit 999;retry 9 1;"), 3);
    }

    private static void atFirst() {
        PowerRails x = Due.of("rail a 2 3;");
        int[] due = {2, 3, 1, 1, 2, 0, 0, 256};
        for (int what = 0; what < due.length; what++) {
            Due.is("at first " + what, x.rail(0, what), due[what]);
        }
    }

    /** A text, its fault, and the place of that. */
    private static void refused(String text, int fault, int place) {
        PowerRails x = new PowerRails();
        Due.is("text " + text, Due.tell(x, text), -10 - place);
        Due.is("fault of " + text, x.fault(), fault);
        Due.is("tape of " + text, x.count(4), 0);
    }

    private static void faults() {
        refused("#", 1, 0);
        refused(".", 1, 0);
        refused("Rail a 1 1;", 1, 0);
        refused("rail a 1 1;\n", 1, 11);
        refused("rail a 1 1\t;", 1, 10);
        refused("limit 0001;", 1, 6);
        refused("rail a 1 1234567890;", 1, 9);
        refused(";", 2, 0);
        refused("5;", 2, 0);
        refused("railx", 2, 0);
        refused("when a;", 2, 0);
        refused("key;", 2, 0);
        refused("rail", 2, 4);
        refused("rail   ", 2, 7);
        refused("rail ;", 2, 5);
        refused("rail 1 1 1;", 2, 5);
        refused("rail a;", 2, 6);
        refused("rail a b 1;", 2, 7);
        refused("rail a 1 b;", 2, 9);
        refused("rail a 1 1 1;", 2, 11);
        refused("rail a 1 1 (;", 2, 11);
        refused("rail a 1 1 fall;", 2, 15);
        refused("rail a 1 1 fall 1 1;", 2, 18);
        refused("rail a 1 1 limit 3;", 2, 11);
        refused("rail a 1 1 key;", 2, 11);
        refused("rail a 1 1 when a b;", 2, 18);
        refused("rail a 1 1 when a 1;", 2, 18);
        refused("rail a 1 1 when );", 2, 16);
        refused("rail a 1 1 when a);", 2, 17);
        refused("rail a 1 1 when (a));", 2, 19);
        refused("rail a 1 1 when ();", 2, 17);
        refused("rail a 1 1 when a | & a;", 2, 20);
        refused("rail a 1 1 when (a", 2, 18);
        refused("rail a 1 1 when (a  ", 2, 20);
        refused("rail a 1 1 when a when a;", 2, 18);
        refused("rail a 1 1 when a(a);", 2, 17);
        refused("limit;", 2, 5);
        refused("limit a;", 2, 6);
        refused("limit 5", 2, 7);
        refused("limit 5 5;", 2, 8);
        refused("retry 1 1 1;", 2, 10);
        refused("rail key 1 1;", 3, 5);
        refused("rail h 1 1;", 3, 5);
        refused("rail a 1 1;rail a 1 1;", 3, 16);
        refused("rail a 1 1;rail c 1 1;", 3, 16);
        refused("rail a 10 1;", 3, 7);
        refused("rail a 3 2;", 3, 9);
        refused("rail a 1 0;", 3, 9);
        refused("rail a 1 1 draw 100 1;", 3, 16);
        refused("rail a 1 1 draw 1 100;", 3, 18);
        refused("rail a 1 1 wait 10;", 3, 16);
        refused("rail a 1 1 within 100;", 3, 18);
        refused("rail a 1 1 when i;", 3, 16);
        refused("rail a 1 1 when aa;", 3, 16);
        refused("rail a 1 1 when when;", 3, 16);
        refused("rail a 1 1 when a & keys;", 3, 20);
        refused("retry 1 0;", 3, 8);
        refused("retry 1 100;", 3, 8);
        refused("rail a 1 1 draw 1 1 draw 1 1;", 4, 20);
        refused("rail a 1 1 wait 1 fall 1 wait 1;", 4, 25);
        refused("rail a 1 1 within 1 wait 1 draw 1 1 fall 1 within 1;", 4, 43);
        refused("rail a 1 1 fall 1 draw 1 1 wait 1 within 1 on 1;", 2, 43);
        refused("limit 1;retry 1 1;limit;", 4, 18);
        refused("retry 1 1;limit 1;retry #", 4, 18);
        refused("limit 1;rail a 1 1;limit 2;", 4, 19);
        refused("retry 1 1;rail a 1 1;retry 1 1;", 4, 21);
        refused("rail a 1 1 when b;rail b 1 1 when c;", 6, 34);
        refused("rail a 1 1 when key & d | c;rail b 1 1 when c;", 6, 22);
        refused("rail a 1 1 when a | h;", 6, 20);
    }

    private static void faultOrder() {
        refused("foo #", 2, 0);
        refused("rail a 0#", 3, 7);
        refused("rail a 1 1 on#", 2, 11);
        refused("rail a 1 1 when z#", 3, 16);
        refused("limit 5 1000;", 1, 8);
        refused("limit 5;#", 1, 8);
        refused("rail a 1 1 when b;limit 0;", 3, 24);
        refused("rail a 1 1 when b; limit", 2, 24);
        refused("limit 3;limit #", 4, 8);
        refused("rail a 1 1;rail b 2 1 when x", 3, 20);
        PowerRails x = new PowerRails();
        Due.is("withs of another rail", Due.tell(x, "rail a 1 1 fall 1;rail b 1 1 fall 1;"), 2);
    }

    private static void ninthRail() {
        StringBuilder eight = new StringBuilder();
        for (char c = 'a'; c <= 'h'; c++) {
            eight.append("rail ").append(c).append(" 1 1;");
        }
        PowerRails x = new PowerRails();
        Due.is("eight rails", Due.tell(x, eight.toString()), 8);
        refused(eight + "rail i 1 1;", 5, 88);
        refused(eight + "rail a 1 1;", 5, 88);
        refused(eight + "rail", 5, 88);
        refused(eight + "limit 3;rail 5", 5, 96);
    }

    private static void deepBrackets() {
        PowerRails x = new PowerRails();
        Due.is("six deep", Due.tell(x, "rail a 1 1 when ((((((a))))))&((((((key|a))))))|(a);"), 1);
        refused("rail a 1 1 when (((((((a)))))));", 5, 22);
        refused("rail a 1 1 when ((((((a&(", 5, 24);
        refused("rail a 1 1 when key|(a&(a|(a&(a|(a&(a)))))|((((((a", 5, 48);
    }

    private static void refusedTextKeeps() {
        PowerRails x = Due.of("rail a 2 3 when key;limit 5;");
        x.key(true);
        x.go(2);
        Due.is("refused", Due.tell(x, "rail a 1 1;rail b 1 1;limit 0;"), -10 - 28);
        Due.is("fault stays told", x.fault(), 3);
        Due.is("rails stay", x.rule(3), 1);
        Due.is("limit stays", x.rule(0), 5);
        Due.is("least stays", x.rail(0, 0), 2);
        Due.is("tick stays", x.now(0), 2);
        Due.is("state stays", x.is(0, 0), 2);
        Due.is("key stays", x.now(7), 1);
        Due.is("history stays", x.count(2), 2);
    }

    private static void takenTextBeginsAnew() {
        PowerRails x = Due.of("rail a 1 3 draw 1 9;limit 8;retry 2 3;");
        x.sheet(0, 1, 7);
        x.key(true);
        x.time(0, 3);
        Due.is("trips", x.go(4), 2);
        x.dead(0, true);
        Due.tell(x, "rail a 2 4;rail b 1 1;retry 4 1;");
        int[] due = {0, 0, 0, 0, 0, 4, 0, 0, 0};
        for (int what = 0; what < due.length; what++) {
            Due.is("anew now " + what, x.now(what), due[what]);
        }
        int[] of = {0, 0, 0, 2, 0};
        for (int what = 0; what < of.length; what++) {
            Due.is("anew is " + what, x.is(0, what), of[what]);
        }
        Due.is("none dead", x.count(1), 0);
        Due.is("nothing happened", x.count(2), 0);
        Due.is("limit anew", x.rule(0), 999);
        Due.is("sheets stay", x.count(5), 7);
        Due.tell(x, "");
        Due.is("no rails any more", x.is(0, 0), PowerRails.BAD);
        Due.is("retry anew", x.rule(1), 0);
        Due.is("behind anew", x.rule(2), 5);
    }

    /** What a text does not tell is as told at first, whatever texts before it told. */
    private static void textsInTurn() {
        PowerRails x = new PowerRails();
        for (int i = 0; i < 4; i++) {
            Due.tell(x, "rail a 2 3 fall 5 draw 6 7 wait 8 within 9 when a & b;rail b 1 1 when b;limit 8;retry 2 3;");
            Due.tell(x, i < 2 ? "limit 0;" : "");
            Due.tell(x, "rail a 1 1;rail b 1 1;");
            int[] due = {1, 1, 1, 1, 2, 0, 0, 256};
            for (int what = 0; what < due.length; what++) {
                Due.is("in turn " + what, x.rail(0, what), due[what]);
            }
            Due.is("in turn a", x.words(0, 10), 256);
            Due.is("in turn b", x.holds(1, 3), 0);
            Due.is("in turn limit", x.rule(0), 999);
            Due.is("in turn retry", x.rule(1), 0);
            Due.is("in turn behind", x.rule(2), 5);
        }
    }

    private static void rails() {
        PowerRails x = Due.of("rail a 2 7 within 12 fall 3 draw 44 55 wait 6 when b & b | ( c & key );rail b 1 1;rail c 1 1 when a;");
        int[] due = {2, 7, 3, 44, 55, 6, 12, 262};
        for (int what = 0; what < due.length; what++) {
            Due.is("rail 0 " + what, x.rail(0, what), due[what]);
        }
        Due.is("rail 2 parts", x.rail(2, 7), 1);
        Due.is("no part 8", x.rail(0, 8), PowerRails.BAD);
        Due.is("no part -1", x.rail(0, -1), PowerRails.BAD);
        Due.is("no rail 3", x.rail(3, 0), PowerRails.BAD);
        Due.is("no rail -1", x.rail(-1, 0), PowerRails.BAD);
    }

    private static void rules() {
        PowerRails x = Due.of("limit 123;retry 7 45;rail a 1 1;");
        Due.is("limit", x.rule(0), 123);
        Due.is("retry", x.rule(1), 7);
        Due.is("behind", x.rule(2), 45);
        Due.is("rails", x.rule(3), 1);
        Due.is("rule 4", x.rule(4), PowerRails.BAD);
        Due.is("rule -1", x.rule(-1), PowerRails.BAD);
    }

    private static void holds() {
        PowerRails x = Due.of("rail a 1 1 when b | c & key;rail b 1 1;rail c 1 1 when (a | b) & c;");
        Due.is("& binds more", x.holds(0, 2), 1);
        Due.is("c alone", x.holds(0, 4), 0);
        Due.is("c and key", x.holds(0, 260), 1);
        Due.is("key alone", x.holds(0, 256), 0);
        Due.is("told key", x.holds(1, 256), 1);
        Due.is("told key, off", x.holds(1, 7), 0);
        Due.is("brackets", x.holds(2, 5), 1);
        Due.is("brackets, without c", x.holds(2, 3), 0);
        Due.is("all", x.holds(2, 263), 1);
        Due.is("none", x.holds(2, 0), 0);
        Due.is("no such rail d", x.holds(2, 8), PowerRails.BAD);
        Due.is("512", x.holds(2, 512), PowerRails.BAD);
        Due.is("below 0", x.holds(2, -1), PowerRails.BAD);
        Due.is("no rail 3", x.holds(3, 0), PowerRails.BAD);
        Due.is("no rail -1", x.holds(-1, 0), PowerRails.BAD);
    }

    private static void words() {
        PowerRails x = Due.of("rail a 1 1 when (b | c) & (key | c) & (b | key);rail b 1 1 when a | a & c;rail c 1 1;");
        Due.is("a: how many", x.words(0, 0), 3);
        Due.is("a: b and c", x.words(0, 10), 6);
        Due.is("a: b and key", x.words(0, 11), 258);
        Due.is("a: c and key", x.words(0, 12), 260);
        Due.is("a: no more", x.words(0, 13), PowerRails.BAD);
        Due.is("b: within another", x.words(1, 0), 1);
        Due.is("b: a", x.words(1, 10), 1);
        Due.is("c: key", x.words(2, 10), 256);
        Due.is("what 1", x.words(0, 1), PowerRails.BAD);
        Due.is("what 9", x.words(0, 9), PowerRails.BAD);
        Due.is("what -1", x.words(0, -1), PowerRails.BAD);
        Due.is("what least", x.words(0, Integer.MIN_VALUE), PowerRails.BAD);
        Due.is("what most", x.words(0, Integer.MAX_VALUE), PowerRails.BAD);
        Due.is("no rail 3", x.words(3, 0), PowerRails.BAD);
        Due.is("no rail -1", x.words(-1, 0), PowerRails.BAD);
    }
}
