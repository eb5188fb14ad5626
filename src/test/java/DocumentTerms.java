/** The terms under 1 and 2 of the document, sentence by sentence; those under 3 stand in DocumentSure. */
final class DocumentTerms {
    private static final int BAD = PowerRails.BAD;
    private static final int NONE = PowerRails.NONE;

    private DocumentTerms() {
    }

    static void all() {
        railsAndKey();
        tapeAndTokens();
        grammar();
        numbersOfRails();
        rules();
        faultsOneAndTwo();
        faultsThreeAndFour();
        faultsFiveAndSix();
        takenText();
        states();
        mays();
        roundsOfTick();
        changesUp();
        changesDown();
        roundBrackets();
        trips();
        held();
        afterTheTrip();
        happenings();
        DocumentSure.all();
    }

    /** A text that is taken by a new object. */
    private static PowerRails takes(String text, int lines) {
        PowerRails x = new PowerRails();
        Due.is("text " + text, Due.tell(x, text), lines);
        Due.is("fault of " + text, x.fault(), 0);
        return x;
    }

    /** A text that is refused; ^ stands ahead of its fault and is not fed. */
    private static void refuses(int fault, String marked) {
        String text = marked.replace("^", "");
        PowerRails x = new PowerRails();
        Due.is("text " + marked, Due.tell(x, text), -10 - marked.indexOf('^'));
        Due.is("fault of " + marked, x.fault(), fault);
    }

    private static PowerRails keyOn(String text) {
        PowerRails x = Due.of(text);
        x.key(true);
        return x;
    }

    private static void railsAndKey() {
        Document.says("1 RAILS a to h (0 to 7), as many as are told; THE KEY (off at first).");
        StringBuilder text = new StringBuilder();
        for (int n = 0; n <= 8; n++) {
            PowerRails x = takes(text.toString(), n);
            Due.is("rails", x.count(0), n);
            Due.is("the last one", x.rail(n - 1, 0), n == 0 ? BAD : n);
            Due.is("one behind", x.rail(n, 0), BAD);
            Due.is("key", x.now(7), 0);
            text.append("rail ").append((char) ('a' + n)).append(' ').append(n + 1).append(" 9;");
        }
    }

    private static void tapeAndTokens() {
        Document.says("THE TAPE has 400 bytes, places from 0.");
        PowerRails x = new PowerRails();
        for (int i = 1; i <= 50; i++) {
            Due.is("feed", x.feed(0x2020202020202020L), 8 * i);
        }
        Due.is("feed", x.feed(0), PowerRails.FULL);
        Due.is("a text of 400 blanks", x.text(), 0);
        refuses(2, "^;");
        refuses(2, " ".repeat(399) + "^;");
        Document.says("TOKENS, each as long as may be, blanks (32) between: NAMES (a .. z), NUMBERS (1 to 3 figures), "
            + "one of ( ) & | ; .");
        takes("rail a1 1;", 1);
        takes("  limit   7  ;  ", 1);
        takes("rail a 1 1 when(a|key)&key;", 1);
        Due.is("limit", takes("limit007;", 1).rule(0), 7);
        refuses(2, "^raila 1 1;");
        refuses(3, "rail a ^11;");
        refuses(1, "limit ^0007;");
        refuses(1, "limit 7^\n;");
        refuses(1, "limit 7^.");
        refuses(1, "^Limit 7;");
    }

    private static void grammar() {
        Document.says("text: { line }");
        takes("", 0);
        takes("limit 7;", 1);
        takes("rail a 1 1;limit 9;rail b 1 1;retry 1 1;", 4);
        Document.says("line: rail R N N { with } [ when F ] ; | limit N ; | retry N N ;");
        takes("rail a 1 2;", 1);
        takes("rail a 1 2 when key;", 1);
        takes("rail a 1 2 wait 1 fall 2 when key;", 1);
        refuses(2, "rail a 1 2 when key ^wait 1;");
        refuses(2, "rail a 1 2 when key ^when key;");
        refuses(2, "rail a 1 ^;");
        refuses(2, "rail a 1 2 ^3;");
        refuses(2, "limit 7 ^7;");
        refuses(2, "retry 7^;");
        refuses(2, "retry 7 7^");
        Document.says("with: fall N | draw N N | wait N | within N");
        PowerRails x = takes("rail a 1 2 within 9 wait 8 draw 7 6 fall 5;", 1);
        int[] due = {1, 2, 5, 7, 6, 8, 9, 256};
        for (int what = 0; what < due.length; what++) {
            Due.is("rail a, " + what, x.rail(0, what), due[what]);
        }
        refuses(2, "rail a 1 2 draw 7 ^wait 8;");
        refuses(2, "rail a 1 2 fall ^draw 7 7;");
        Document.says("F: G { | G } G: U { & U } U: R | key | ( F )");
        x = takes("rail a 1 1 when a | b & key;rail b 1 1 when (a | b) & key;", 2);
        Due.is("a alone", x.holds(0, 1), 1);
        Due.is("b alone", x.holds(0, 2), 0);
        Due.is("b and key", x.holds(0, 258), 1);
        Due.is("a alone", x.holds(1, 1), 0);
        Due.is("a and key", x.holds(1, 257), 1);
        refuses(2, "rail a 1 1 when ^;");
        refuses(2, "rail a 1 1 when a ^a;");
        refuses(2, "rail a 1 1 when a & ^| a;");
        refuses(2, "rail a 1 1 when (a^;");
        refuses(2, "rail a 1 1 when (^);");
        refuses(2, "rail a 1 1 when a^);");
        refuses(2, "rail a 1 1 when ^1;");
    }

    private static void numbersOfRails() {
        Document.says("rail: R (one letter: a first, b next, and so on), from LEAST to MOST TICKS to rise (1 to 9 each).");
        takes("rail a 1 9;rail b 9 9;rail c 1 1;", 3);
        refuses(3, "rail ^b 1 9;");
        refuses(3, "rail a 1 9;rail ^a 1 9;");
        refuses(3, "rail ^aa 1 9;");
        refuses(3, "rail a ^0 9;");
        refuses(3, "rail a ^10 9;");
        refuses(3, "rail a 9 ^10;");
        Document.says("fall: TICKS to fall (0 to 9; 1).");
        bounds("fall", 2, 0, 9, 1);
        Document.says("draw: what it draws when it is good, while it rises (0 to 99 each; 1 and 2).");
        PowerRails x = takes("rail a 1 1 draw 0 99;rail b 1 1 draw 99 0;rail c 1 1;", 3);
        int[] due = {0, 99, 99, 0, 1, 2};
        for (int i = 0; i < due.length; i++) {
            Due.is("draw " + i, x.rail(i / 2, 3 + i % 2), due[i]);
        }
        refuses(3, "rail a 1 1 draw ^100 0;");
        refuses(3, "rail a 1 1 draw 0 ^100;");
        Document.says("wait: TICKS from when it may to when it rises (0 to 9; 0).");
        bounds("wait", 5, 0, 9, 0);
        x = keyOn("rail a 1 1 wait 9;");
        x.go(9);
        Due.is("waits", x.is(0, 0), 1);
        x.go(1);
        Due.is("rises", x.is(0, 0), 2);
        Document.says("within: TICKS in which it must be good from when it may "
            + "(1 to 99; 0: no such; 0, if it is not told).");
        bounds("within", 6, 1, 99, 0);
        x = keyOn("rail a 9 9 wait 9;");
        x.dead(0, true);
        Due.is("without within", x.go(999), 0);
        Due.is("good within", keyOn("rail a 1 1 wait 8 within 10;").go(99), 0);
        Due.is("too late", keyOn("rail a 1 2 wait 9 within 9;").go(99), 1);
        Document.says("when: it may be up while F holds (key, if it is not told).");
        x = keyOn("rail a 1 1;rail b 1 1 when a;");
        Due.is("a's parts", x.rail(0, 7), 256);
        x.go(3);
        Due.is("up", x.now(1), 3);
        x.key(false);
        x.go(2);
        Due.is("up no more", x.now(1), 0);
    }

    /** A with of one number: least, greatest, what holds if it is not told. */
    private static void bounds(String with, int what, int least, int most, int untold) {
        Due.is(with + " not told", takes("rail a 1 1;", 1).rail(0, what), untold);
        Due.is(with + " least", takes("rail a 1 1 " + with + " " + least + ";", 1).rail(0, what), least);
        Due.is(with + " most", takes("rail a 1 1 " + with + " " + most + ";", 1).rail(0, what), most);
        refuses(3, "rail a 1 1 " + with + " ^" + (most + 1) + ";");
        if (least > 0) {
            refuses(3, "rail a 1 1 " + with + " ^" + (least - 1) + ";");
        }
    }

    private static void rules() {
        Document.says("limit: 1 to 999 (999).");
        Due.is("not told", takes("", 0).rule(0), 999);
        Due.is("least", takes("limit 1;", 1).rule(0), 1);
        Due.is("most", takes("limit 999;", 1).rule(0), 999);
        refuses(3, "limit ^0;");
        refuses(1, "limit ^1000;");
        Document.says("retry: how often all is tried again when it TRIPS (0 to 9; 0), "
            + "behind how many TICKS (1 to 99; 5).");
        PowerRails x = takes("retry 9 99;", 1);
        Due.is("how often", x.rule(1), 9);
        Due.is("behind", x.rule(2), 99);
        x = takes("retry 0 1;", 1);
        Due.is("how often", x.rule(1), 0);
        Due.is("behind", x.rule(2), 1);
        x = takes("", 0);
        Due.is("how often", x.rule(1), 0);
        Due.is("behind", x.rule(2), 5);
        refuses(3, "retry ^10 1;");
        refuses(3, "retry 0 ^0;");
        refuses(3, "retry 0 ^100;");
        x = keyOn("rail a 1 1 draw 1 9;limit 8;retry 2 3;");
        Due.is("tried again", x.go(99), 3);
        Due.same("when", Due.history(x), "0a1 0a2 0*6 0a4 1a0 3a1 3a2 3*6 3a4 4a0 6a1 6a2 6*6 6a4 7a0");
    }

    private static void faultsOneAndTwo() {
        Document.says("FAULTS, the first met as it is read (a TOKEN is read when the one before has been taken):");
        refuses(3, "rail ^b # 1;");
        refuses(3, "limit ^0 #");
        refuses(2, "rail a 1 1 ^key #;");
        refuses(1, "limit 7^#");
        refuses(4, "limit 7;^limit #;");
        refuses(2, "rail a 1 1 when b^");
        Document.says("1 no TOKEN, a NUMBER that is too long (its first byte).");
        refuses(1, "rail a 1 1 ^~;");
        refuses(1, "rail a 1 1 draw 1 ^1000;");
        refuses(1, "^0000");
        Document.says("2 a TOKEN that can not stand there "
            + "(a NAME that begins no line, is no with; or the end: the length).");
        refuses(2, "^lim 7;");
        refuses(2, "^key;");
        refuses(2, "^7;");
        refuses(2, "rail a 1 1 ^key;");
        refuses(2, "rail a 1 1 ^limit 7;");
        refuses(2, "rail a 1 1   ^");
        refuses(2, "rail^");
    }

    private static void faultsThreeAndFour() {
        Document.says("3 a NUMBER out of its bounds (MOST below LEAST), a NAME that is no R where one must be, "
            + "an R out of its turn.");
        refuses(3, "rail a 2 ^1;");
        refuses(3, "rail ^key 1 1;");
        refuses(3, "rail ^z 1 1;");
        refuses(3, "rail a 1 1 when ^i;");
        refuses(3, "rail a 1 1 when ^ab;");
        refuses(3, "rail a 1 1 when (key & ^rail);");
        refuses(3, "rail a 1 1;rail ^c 1 1;");
        Document.says("4 a with, limit, retry for the second time (its NAME).");
        refuses(4, "rail a 1 1 fall 1 ^fall 1;");
        refuses(4, "rail a 1 1 draw 1 1 wait 1 ^draw 1 1;");
        refuses(4, "rail a 1 1 wait 1 ^wait 1;");
        refuses(4, "rail a 1 1 within 1 ^within 1;");
        refuses(4, "limit 7;rail a 1 1;^limit 7;");
        refuses(4, "retry 1 1;^retry 1 1;");
        takes("rail a 1 1 wait 1;rail b 1 1 wait 1;", 2);
    }

    private static void faultsFiveAndSix() {
        Document.says("5 the 9th rail (its NAME); ( more than 6 deep (it).");
        StringBuilder eight = new StringBuilder();
        for (char c = 'a'; c <= 'h'; c++) {
            eight.append("rail ").append(c).append(" 1 1;");
        }
        takes(eight.toString(), 8);
        refuses(5, eight + "^rail i 1 1;");
        takes("rail a 1 1 when ((((((key))))));", 1);
        takes("rail a 1 1 when ((((((key))))))&((((((a))))));", 1);
        refuses(5, "rail a 1 1 when ((((((^(key)))))));");
        Document.says("Behind all: 6 a RAIL in a formula that is not told (LINE by LINE; its R).");
        takes("rail a 1 1 when b;rail b 1 1;", 2);
        refuses(6, "rail a 1 1 when a & ^b;");
        refuses(6, "rail a 1 1 when ^c | d;rail b 1 1 when d;");
        refuses(2, "rail a 1 1 when b;limit^");
        refuses(4, "rail a 1 1 when b;limit 7;^limit 7;");
    }

    private static void takenText() {
        Document.says("A text that is taken tells all, in place of what there was; all begins anew: TICK 0, THE KEY off, "
            + "all RAILS OFF, none DEAD, nothing HAPPENED.");
        PowerRails x = keyOn("rail a 1 3 draw 9 9 wait 2;rail b 1 1 draw 9 9;rail c 1 1;limit 17;retry 3 9;");
        x.time(0, 3);
        x.dead(2, true);
        Due.is("trips", x.go(7), 1);
        Due.is("lines", Due.tell(x, "rail a 1 3;rail b 2 2;retry 1 2;"), 3);
        int[] rules = {999, 1, 2, 2};
        for (int what = 0; what < rules.length; what++) {
            Due.is("rule " + what, x.rule(what), rules[what]);
        }
        int[] now = {0, 0, 0, 0, 0, 1, 0, 0, 0};
        for (int what = 0; what < now.length; what++) {
            Due.is("now " + what, x.now(what), now[what]);
        }
        int[] a = {0, 0, 0, 1, 0};
        for (int what = 0; what < a.length; what++) {
            Due.is("a is " + what, x.is(0, what), a[what]);
        }
        Due.is("a's wait", x.rail(0, 5), 0);
        Due.is("c", x.rail(2, 0), BAD);
        Due.is("dead", x.count(1), 0);
        Due.is("happened", x.count(2), 0);
    }

    private static void states() {
        Document.says("2 A RAIL is OFF (0), WAITS (1), RISES (2), is GOOD (3), FALLS (4), each since so many TICKS;");
        PowerRails x = Due.of("rail a 2 2 wait 2 fall 2;");
        x.go(1);
        isSince(x, 0, 1);
        x.key(true);
        int[][] due = {{1, 1}, {1, 2}, {2, 1}, {2, 2}, {3, 1}, {3, 2}};
        for (int[] row : due) {
            x.go(1);
            isSince(x, row[0], row[1]);
        }
        x.key(false);
        due = new int[][] {{4, 1}, {4, 2}, {0, 1}, {0, 2}};
        for (int[] row : due) {
            x.go(1);
            isSince(x, row[0], row[1]);
        }
        Document.says("besides it can be DEAD (told by hand): it never becomes GOOD, and is so no more.");
        x = keyOn("rail a 1 1;rail b 1 1;");
        x.dead(0, true);
        x.go(20);
        Due.is("a rises", x.is(0, 0), 2);
        Due.is("b is good", x.is(1, 0), 3);
        x.dead(1, true);
        x.go(1);
        Due.is("b is good no more", x.is(1, 0), 4);
        x.dead(0, false);
        x.go(1);
        Due.is("a is good", x.is(0, 0), 3);
        Document.says("TIMES: how long each RAIL takes to rise (by hand LEAST to MOST; LEAST at first).");
        x = keyOn("rail a 2 4;rail b 3 3;");
        Due.is("at first", x.is(0, 3), 2);
        Due.is("below LEAST", x.time(0, 1), BAD);
        Due.is("above MOST", x.time(0, 5), BAD);
        Due.is("MOST", x.time(0, 4), 2);
        x.go(4);
        Due.is("b is good", x.now(1), 2);
        x.go(1);
        Due.is("both are good", x.now(1), 3);
    }

    private static void isSince(PowerRails x, int state, int ticks) {
        Due.is("it is", x.is(0, 0), state);
        Due.is("since", x.is(0, 1), ticks);
    }

    private static void mays() {
        Document.says("A RAIL HOLDS in a formula, if it is GOOD; THE KEY, if it is on.");
        PowerRails x = keyOn("rail a 2 2;rail b 1 1 when a;");
        x.go(2);
        Due.is("a only rises", x.is(1, 0), 0);
        x.go(1);
        Due.is("a is good", x.is(1, 0), 2);
        Document.says("A RAIL MAY, if its formula holds and all is not HELD.");
        x = keyOn("rail a 1 1 draw 1 9;limit 8;retry 1 4;");
        x.go(4);
        Due.is("held", x.is(0, 0), 0);
        x.go(1);
        Due.is("not held", x.now(8), 2);
    }

    private static void roundsOfTick() {
        Document.says("At a TICK, in rounds till nothing changes: in each round first it is found for all RAILS "
            + "which of them MAY;");
        PowerRails x = keyOn("rail a 1 1 fall 0;rail b 1 1 fall 0 when a;rail c 1 1 fall 0 when b;");
        x.go(4);
        x.key(false);
        x.go(1);
        Due.same("one behind the other", Due.history(x),
            "0a1 0a2 1a3 1b1 1b2 2b3 2c1 2c2 3c3 4a4 4a0 4b4 4b0 4c4 4c0");
        Document.says("then RAIL by RAIL:");
        x = keyOn("rail a 1 1 fall 0 when b;rail b 1 1 fall 0 when c;rail c 1 1 fall 0;");
        x.go(4);
        x.key(false);
        x.go(1);
        Due.same("rail by rail", Due.history(x),
            "0c1 0c2 1c3 1b1 1b2 2b3 2a1 2a2 3a3 4c4 4b4 4c0 4a4 4b0 4a0");
    }

    private static void changesUp() {
        Document.says("OFF and MAY: it WAITS;");
        PowerRails x = keyOn("rail a 1 1 wait 2;");
        x.go(1);
        Due.is("it waits", x.is(0, 0), 1);
        Document.says("WAITS and MAY not: OFF;");
        x.key(false);
        x.go(1);
        Due.is("it is off", x.is(0, 0), 0);
        Due.is("since", x.is(0, 1), 1);
        Document.says("WAITS and has waited so long as its wait: it RISES;");
        x.key(true);
        x.go(2);
        Due.is("it waits", x.is(0, 0), 1);
        x.go(1);
        Due.is("it rises", x.is(0, 0), 2);
        Document.says("RISES or GOOD and MAY not: it FALLS;");
        x.key(false);
        x.go(1);
        Due.is("it falls", x.is(0, 0), 4);
        Due.is("it was never good", x.is(0, 4), 0);
        x = keyOn("rail a 1 1;");
        x.go(2);
        x.key(false);
        x.go(1);
        Due.is("it falls", x.is(0, 0), 4);
        Document.says("RISES, not DEAD and has risen so long as it takes: GOOD;");
        x = keyOn("rail a 3 3;rail b 3 3;");
        x.dead(1, true);
        x.go(3);
        Due.is("they rise", x.now(2), 3);
        x.go(1);
        Due.is("a is good", x.now(1), 1);
        Due.is("b rises", x.now(2), 2);
    }

    private static void changesDown() {
        Document.says("GOOD and DEAD: it FALLS;");
        PowerRails x = keyOn("rail a 1 1 fall 3;");
        x.go(2);
        x.dead(0, true);
        Due.is("it is good till the tick", x.is(0, 0), 3);
        x.go(1);
        Due.is("it falls", x.is(0, 0), 4);
        Document.says("FALLS and has fallen so long as it takes: OFF.");
        x.key(false);
        x.go(2);
        Due.is("it falls", x.is(0, 0), 4);
        x.go(1);
        Due.is("it is off", x.is(0, 0), 0);
        Due.same("when", Due.history(x), "0a1 0a2 1a3 2a4 5a0");
    }

    private static void roundBrackets() {
        Document.says("(One such change of a RAIL in a round; it begins at 0 TICKS there.");
        PowerRails x = keyOn("rail a 1 1;rail b 1 1;");
        x.go(1);
        Due.same("round by round", Due.history(x), "0a1 0b1 0a2 0b2");
        Due.is("since", x.is(0, 1), 1);
        Document.says("Who FALLS goes on to OFF, though it MAY.)");
        x = keyOn("rail a 1 1 fall 2;");
        x.go(2);
        x.key(false);
        x.go(1);
        x.key(true);
        x.go(2);
        Due.same("it falls on", Due.history(x), "0a1 0a2 1a3 2a4 4a0 4a1 4a2");
    }

    private static void trips() {
        Document.says("Then what is drawn is summed: of GOOD ones, of those that RISE.");
        PowerRails x = keyOn("rail a 1 1 draw 10 20 fall 9;rail b 3 3 draw 3 4;rail c 1 1 draw 50 50 wait 9;");
        x.go(1);
        Due.is("a, b rise", x.now(3), 24);
        x.go(1);
        Due.is("a good, b rises", x.now(3), 14);
        x.dead(0, true);
        x.go(1);
        Due.is("a falls", x.now(3), 4);
        Document.says("TRIP 1: it is above the limit.");
        Due.is("at the limit", keyOn("rail a 1 1 draw 1 9;limit 9;").go(9), 0);
        Due.is("above", keyOn("rail a 1 1 draw 1 9;limit 8;").go(9), 1);
        Document.says("TRIP 2: a RAIL that WAITS or RISES is so (both together) for as many TICKS as within tells, "
            + "or more.");
        x = keyOn("rail a 3 3 wait 3 within 5;");
        Due.is("four ticks", x.go(5), 0);
        Due.is("five ticks", x.go(1), 1);
        Due.is("good at the sixth", keyOn("rail a 3 3 wait 3 within 6;").go(20), 0);
    }

    private static void held() {
        Document.says("Then all is HELD: for so many TICKS as retry tells (this one the first), "
            + "if there are tries left (one is used up);");
        PowerRails x = keyOn("rail a 1 1 draw 1 9;rail b 1 1 draw 1 0;limit 8;retry 2 3;");
        Due.is("tries", x.now(5), 2);
        Due.is("trip", x.go(1), 1);
        Due.is("held", x.now(4), 2);
        Due.is("tries", x.now(5), 1);
        x.go(2);
        Due.is("held no more", x.now(4), 0);
        Due.is("all were", x.now(1) | x.now(2), 0);
        Due.is("tried again", x.go(1), 1);
        Document.says("else for good, till THE KEY is turned off;");
        x.go(2);
        Due.is("the last", x.go(1), 1);
        Due.is("for good", x.now(4), NONE);
        Due.is("nothing more", x.go(99), 0);
        x.key(true);
        Due.is("for good", x.now(4), NONE);
        x.key(false);
        Due.is("turned off", x.now(4), 0);
    }

    private static void afterTheTrip() {
        Document.says("the TICK is settled again (without looking for a TRIP).");
        PowerRails x = keyOn("rail a 9 9 draw 1 9 fall 0;limit 8;retry 1 1;");
        Due.is("one trip", x.go(1), 1);
        Due.same("in the same tick", Due.history(x), "0a1 0a2 0*6 0a4 0a0");
        Due.is("drawn", x.now(3), 9);
        Due.is("held", x.now(4), 0);
        Document.says("(Turning THE KEY off, though it is off, gives all tries back.)");
        x = keyOn("rail a 1 1 draw 1 9;limit 8;retry 1 5;");
        x.go(1);
        Due.is("tries", x.now(5), 0);
        x.key(false);
        Due.is("tries", x.now(5), 1);
        x = keyOn("rail a 1 1 when key | b;rail b 1 1 when a;rail c 1 1 draw 1 9 when a & d;rail d 1 1 when b;"
            + "limit 11;retry 2 5;");
        x.go(3);
        x.key(false);
        Due.is("trips, though it is off", x.go(2), 1);
        Due.is("tries", x.now(5), 1);
        Due.is("it was off", x.key(false), 0);
        Due.is("tries", x.now(5), 2);
        Document.says("Behind that TICKS of all go on by 1.");
        x = Due.of("rail a 1 1;rail b 1 1 wait 5;");
        x.go(1);
        Due.is("tick", x.now(0), 1);
        Due.is("a is off since", x.is(0, 1), 1);
        x.key(true);
        x.go(3);
        Due.is("tick", x.now(0), 4);
        Due.is("a is good since", x.is(0, 1), 2);
        Due.is("b waits since", x.is(1, 1), 3);
    }

    private static void happenings() {
        Document.says("HAPPENINGS (64; those behind are not kept): TICK, RAIL, what it became (0 to 4; "
            + "TRIPS: RAIL NONE, 5 and 1 or 2), in the order in which it was so.");
        PowerRails x = keyOn("rail a 1 1 draw 1 9;limit 8;retry 9 2;");
        x.go(20);
        Due.is("kept", x.count(2), 50);
        x.key(false);
        x.key(true);
        x.go(20);
        Due.is("kept", x.count(2), 64);
        Due.is("one behind", x.happened(64, 0), BAD);
        Due.is("tick of the trip", x.happened(7, 0), 2);
        Due.is("rail of the trip", x.happened(7, 1), NONE);
        Due.is("above the limit", x.happened(7, 2), 6);
        x = keyOn("rail a 2 2 within 1;");
        x.go(2);
        Due.same("too late", Due.history(x), "0a1 0a2 1*7 1a4");
    }
}
