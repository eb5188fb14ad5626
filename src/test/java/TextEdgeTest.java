/** The boundary cases of the terms under 1 and of promises 1 and 4, each sentence by itself. */
public final class TextEdgeTest {
    private static final int BAD = PowerRails.BAD;
    private static final String SIGNS = "()&|;";

    public static void main(String[] args) {
        newObject();
        keyAtFirst();
        asManyAsAreTold();
        noSuchRail();
        fourHundredBytes();
        placesFromZero();
        asLongAsMayBe();
        almostTheName();
        blanksBetween();
        oneByte();
        oneToThreeFigures();
        boundsOfRise();
        boundsOfWiths();
        boundsOfRules();
        notTold();
        withsInAnyOrder();
        canNotStandThere();
        theEnd();
        everyPrefix();
        mostBelowLeast();
        noRail();
        outOfTurn();
        secondTime();
        ninthRail();
        sixDeep();
        railNotTold();
        firstMet();
        readWhenTheOneBeforeIsTaken();
        inPlaceOfWhatThereWas();
        beginsAnew();
        Due.close();
    }

    /** A text that is refused, its fault and the place of that; and that THE TAPE is empty then. */
    private static void refused(String text, int fault, int place) {
        PowerRails x = new PowerRails();
        Due.is("text " + text, Due.tell(x, text), -10 - place);
        Due.is("fault of " + text, x.fault(), fault);
        Due.is("tape behind " + text, x.count(4), 0);
        Due.is("rails behind " + text, x.count(0), 0);
    }

    private static PowerRails taken(String text, int lines) {
        PowerRails x = new PowerRails();
        Due.is("text " + text, Due.tell(x, text), lines);
        Due.is("fault of " + text, x.fault(), 0);
        return x;
    }

    private static String blanks(int n) {
        return " ".repeat(n);
    }

    /** The first n rails, told as briefly as can be. */
    private static String rails(int n) {
        StringBuilder s = new StringBuilder();
        for (int r = 0; r < n; r++) {
            s.append("rail ").append((char) ('a' + r)).append(" 1 1;");
        }
        return s.toString();
    }

    private static void newObject() {
        Due.says("No RAILS; limit, retry as told at first; SHEETS of nothing.");
        PowerRails x = new PowerRails();
        Due.is("rails", x.rule(3), 0);
        Due.is("count of rails", x.count(0), 0);
        for (int r = -1; r <= 8; r++) {
            Due.is("rail " + r, x.rail(r, 0), BAD);
        }
        Due.is("limit", x.rule(0), 999);
        Due.is("retry", x.rule(1), 0);
        Due.is("behind", x.rule(2), 5);
        Due.is("cells of sheet 0", x.count(5), PowerRails.NONE);
        for (int k = 0; k < 4; k++) {
            Due.is("lay on sheet " + k, x.lay(k, 0, 1), -11);
            for (int lane = 0; lane < 3; lane++) {
                Due.is("sheet " + k + " as of lane " + lane, x.measured(k, lane, 0, 0, 0), -11);
            }
        }
        Due.is("nothing on the tape", x.count(4), 0);
        Due.is("no fault", x.fault(), 0);
    }

    private static void keyAtFirst() {
        Due.says("THE KEY (off at first).");
        Due.is("new", new PowerRails().now(7), 0);
        Due.is("told", Due.of("rail a 1 1;").now(7), 0);
        Due.is("was on", Due.of("rail a 1 1;").key(true), 0);
    }

    private static void asManyAsAreTold() {
        Due.says("RAILS a to h (0 to 7), as many as are told");
        for (int n = 0; n <= 8; n++) {
            PowerRails x = taken(rails(n), n);
            Due.is("rails of " + n, x.rule(3), n);
            Due.is("count of " + n, x.count(0), n);
            for (int r = -1; r <= 8; r++) {
                Due.is("rail " + r + " of " + n, x.rail(r, 0), r >= 0 && r < n ? 1 : BAD);
            }
        }
    }

    private static void noSuchRail() {
        Due.says("BAD -1 (.. there is no such RAIL ..)");
        for (int n = 0; n <= 8; n++) {
            for (int r : new int[] {Integer.MIN_VALUE, -1, n, 8, 31, 32, Integer.MAX_VALUE}) {
                PowerRails x = taken(rails(n), n);
                String who = " " + r + " of " + n;
                Due.is("rail" + who, x.rail(r, 7), BAD);
                Due.is("holds" + who, x.holds(r, 0), BAD);
                Due.is("words" + who, x.words(r, 0), BAD);
                Due.is("dead" + who, x.dead(r, true), BAD);
                Due.is("time" + who, x.time(r, 1), BAD);
                Due.is("is" + who, x.is(r, 0), BAD);
                Due.is("when" + who, x.when(r, 0), BAD);
                Due.is("ahead" + who, x.ahead(r, 0, 0), -1000);
                Due.is("ahead of" + who, x.ahead(0, r, 0), -1000);
                Due.is("stagger" + who, x.stagger(10 + r), BAD);
                Due.is("cut" + who, x.cut(r, 0), BAD);
                Due.is("need" + who, x.need(r, 0), BAD);
                Due.is("must" + who, x.must(r), BAD);
                Due.is("none dead" + who, x.count(1), 0);
            }
        }
    }

    private static void fourHundredBytes() {
        Due.says("THE TAPE has 400 bytes");
        Due.is("the last byte counts", taken(blanks(392) + "limit 7;", 1).rule(0), 7);
        Due.is("full from the first on", taken("limit 7;" + blanks(392), 1).rule(0), 7);
        refused(blanks(399) + "#", 1, 399);
        refused(blanks(393) + "limit 7", 2, 400);
        refused(blanks(392) + "limit 0;", 3, 398);
        StringBuilder s = new StringBuilder("rail a 1 1 when a");
        while (s.length() < 397) {
            s.append("|a");
        }
        PowerRails x = taken(s.append("  ;").toString(), 1);
        Due.is("a formula of 400", x.rail(0, 7), 1);
        Due.is("in other words", x.words(0, 0), 1);
        refused("a".repeat(400), 2, 0);
        refused("1".repeat(400), 1, 0);
        refused(";".repeat(400), 2, 0);
        refused("rail a 1 1 when " + "(".repeat(384), 5, 22);
        String lines = rails(8) + "limit 1;retry 0 1;";
        taken(lines + blanks(400 - lines.length()), 10);
    }

    private static void placesFromZero() {
        Due.says("places from 0");
        refused("#", 1, 0);
        refused(" #", 1, 1);
        refused("x", 2, 0);
        refused("  x", 2, 2);
    }

    private static void asLongAsMayBe() {
        Due.says("TOKENS, each as long as may be");
        refused("raila 1 1;", 2, 0);
        refused("rail ab 1 1;", 3, 5);
        refused("rail a 11;", 3, 7);
        refused("rail a 1 1 whena;", 2, 11);
        refused("rail a 1 1 when keya;", 3, 16);
        refused("rail a 1 1 when akey;", 3, 16);
        refused("limits 1;", 2, 0);
        refused("limi 1;", 2, 0);
        refused("retr y 1 1;", 2, 0);
        taken("rail a1 1fall1draw1 1wait1within1when(a)&key|a;limit1;retry1 1;", 3);
    }

    /** A name with one letter changed, left out or added, is another one. */
    private static void almost(String ahead, String name, int fault) {
        for (int i = 0; i < name.length(); i++) {
            String left = name.substring(0, i);
            String right = name.substring(i + 1);
            refused(ahead + left + "x" + right, fault, ahead.length());
            refused(ahead + left + (char) (name.charAt(i) + 1) + right, fault, ahead.length());
            refused(ahead + left + right, fault, ahead.length());
            refused(ahead + left + "x" + name.charAt(i) + right, fault, ahead.length());
        }
        refused(ahead + name + "x", fault, ahead.length());
        refused(ahead + name + name, fault, ahead.length());
    }

    private static void almostTheName() {
        Due.says("2 (a NAME that begins no line, is no with), 3 a NAME that is no R where one must be");
        for (String name : new String[] {"rail", "limit", "retry"}) {
            almost("", name, 2);
            almost("rail a 1 1;", name, 2);
        }
        for (String name : new String[] {"fall", "draw", "wait", "within", "when"}) {
            almost("rail a 1 1 ", name, 2);
        }
        almost("rail a 1 1 when ", "key", 3);
        almost("rail a 1 1 when (a & ", "key", 3);
    }

    private static void blanksBetween() {
        Due.says("blanks (32) between");
        taken("rail a 1 1;", 1);
        taken("  rail   a    1     1      ;       ", 1);
        taken(" ", 0);
        taken("rail a 1 1 when ( ( a ) & ( key ) );", 1);
        for (int b = 0; b < 256; b++) {
            boolean token = b >= 'a' && b <= 'z' || b >= '0' && b <= '9' || SIGNS.indexOf(b) >= 0;
            if (b == ' ') {
                taken("limit 7;" + (char) b, 1);
            } else {
                refused("limit 7;" + (char) b, token ? 2 : 1, 8);
            }
        }
    }

    private static void oneByte() {
        Due.says("NAMES (a .. z), NUMBERS (1 to 3 figures), one of ( ) & | ;");
        for (int b = 0; b < 256; b++) {
            String between = "rail a 1 1 when a" + (char) b + "a;";
            if (b == ' ') {
                refused(between, 2, 18);
            } else if (b >= 'a' && b <= 'z') {
                refused(between, 3, 16);
            } else if (b >= '0' && b <= '9' || b == '(' || b == ')') {
                refused(between, 2, 17);
            } else if (b == '&' || b == '|') {
                taken(between, 1);
            } else if (b == ';') {
                refused(between, 2, 18);
            } else {
                refused(between, 1, 17);
            }
        }
    }

    private static void oneToThreeFigures() {
        Due.says("1 no TOKEN, a NUMBER that is too long (its first byte)");
        Due.is("one", taken("limit 7;", 1).rule(0), 7);
        Due.is("two", taken("limit 07;", 1).rule(0), 7);
        Due.is("three", taken("limit 007;", 1).rule(0), 7);
        refused("limit 0007;", 1, 6);
        refused("limit 1000;", 1, 6);
        refused("limit  99999999999999999999;", 1, 7);
        refused("rail a 0001 1;", 1, 7);
        refused("rail a 1 0001;", 1, 9);
        refused("rail a 1 1 draw 1 0001;", 1, 18);
        refused("0001", 1, 0);
        refused("rail 0001", 1, 5);
        refused("rail a 1 1 when 0001;", 1, 16);
        refused("limit 4294967297;", 1, 6);
    }

    /** A number in a text: out of its bounds is fault 3 at it; within them it is taken. */
    private static void bounds(String ahead, String behind, int low, int high, int part) {
        for (int v : new int[] {low - 1, low, high, high + 1}) {
            String text = ahead + v + behind;
            if (v >= low && v <= high) {
                PowerRails x = taken(text, 1);
                Due.is("taken by " + text, part >= 0 ? x.rail(0, part) : x.rule(-1 - part), v);
            } else if (v >= 0) {
                refused(text, v > 999 ? 1 : 3, ahead.length());
            }
        }
    }

    private static void boundsOfRise() {
        Due.says("from LEAST to MOST TICKS to rise (1 to 9 each)");
        bounds("rail a ", " 9;", 1, 9, 0);
        bounds("rail a 1 ", ";", 1, 9, 1);
        refused("rail a 000 1;", 3, 7);
        refused("rail a 999 1;", 3, 7);
        refused("rail a 1 999;", 3, 9);
    }

    private static void boundsOfWiths() {
        Due.says("fall: (0 to 9)");
        bounds("rail a 1 1 fall ", ";", 0, 9, 2);
        Due.says("draw: (0 to 99 each)");
        bounds("rail a 1 1 draw ", " 1;", 0, 99, 3);
        bounds("rail a 1 1 draw 1 ", ";", 0, 99, 4);
        Due.says("wait: (0 to 9)");
        bounds("rail a 1 1 wait ", ";", 0, 9, 5);
        Due.says("within: (1 to 99; 0: no such)");
        bounds("rail a 1 1 within ", ";", 1, 99, 6);
    }

    private static void boundsOfRules() {
        Due.says("limit: 1 to 999 (999)");
        bounds("limit ", ";", 1, 999, -1);
        Due.says("retry: (0 to 9; 0), behind how many TICKS (1 to 99; 5)");
        bounds("retry ", " 1;", 0, 9, -2);
        bounds("retry 0 ", ";", 1, 99, -3);
    }

    private static void parts(String text, int... due) {
        PowerRails x = taken(text, 1);
        for (int what = 0; what < due.length; what++) {
            Due.is("part " + what + " of " + text, x.rail(0, what), due[what]);
        }
    }

    private static void notTold() {
        Due.says("fall 1, draw 1 and 2, wait 0, within 0, when key, if it is not told");
        parts("rail a 3 4;", 3, 4, 1, 1, 2, 0, 0, 256);
        parts("rail a 3 4 draw 5 6 wait 7 within 8 when a;", 3, 4, 1, 5, 6, 7, 8, 1);
        parts("rail a 3 4 fall 5 wait 7 within 8 when a;", 3, 4, 5, 1, 2, 7, 8, 1);
        parts("rail a 3 4 fall 5 draw 5 6 within 8 when a;", 3, 4, 5, 5, 6, 0, 8, 1);
        parts("rail a 3 4 fall 5 draw 5 6 wait 7 when a;", 3, 4, 5, 5, 6, 7, 0, 1);
        parts("rail a 3 4 fall 5 draw 5 6 wait 7 within 8;", 3, 4, 5, 5, 6, 7, 8, 256);
        PowerRails x = taken("limit 3;", 1);
        Due.is("retry", x.rule(1), 0);
        Due.is("behind", x.rule(2), 5);
        Due.is("limit", taken("retry 1 2;", 1).rule(0), 999);
    }

    private static void withsInAnyOrder() {
        Due.says("{ with } [ when F ] ;");
        parts("rail a 3 4 within 8 wait 7 draw 5 6 fall 2 when a;", 3, 4, 2, 5, 6, 7, 8, 1);
        refused("rail a 1 1 when a fall 1;", 2, 18);
        refused("rail a 1 1 when a when a;", 2, 18);
        refused("rail a 1 1 wait 1 when a wait 1;", 2, 25);
    }

    /** Each of some tokens, put behind the beginning of a text, has a fault at its place. */
    private static void misplaced(String ahead, int fault, String... tokens) {
        for (String token : tokens) {
            refused(ahead + " " + token, fault, ahead.length() + 1);
            refused(ahead + " " + token + " ;", fault, ahead.length() + 1);
        }
    }

    private static void canNotStandThere() {
        Due.says("2 a TOKEN that can not stand there (a NAME that begins no line, is no with ..)");
        misplaced("", 2, "5", "(", ")", "&", "|", ";", "x", "a", "key", "when", "fall", "draw", "wait", "within");
        misplaced("limit 1 ;", 2, "5", "(", ")", "&", "|", ";", "x", "key", "when", "fall");
        misplaced("rail", 2, "5", "(", ")", "&", "|", ";");
        String[] noNumber = {"(", ")", "&", "|", ";", "x", "a", "key", "when", "fall", "rail", "limit"};
        String[] wantNumber = {"rail a", "rail a 1", "rail a 1 1 fall", "rail a 1 1 draw", "rail a 1 1 draw 1",
            "rail a 1 1 wait", "rail a 1 1 within", "limit", "retry", "retry 1"};
        for (String ahead : wantNumber) {
            misplaced(ahead, 2, noNumber);
        }
        String[] noWith = {"5", "(", ")", "&", "|", "x", "a", "key", "rail", "limit", "retry"};
        String[] wantWith = {"rail a 1 1", "rail a 1 1 fall 1", "rail a 1 1 draw 1 1", "rail a 1 1 wait 1",
            "rail a 1 1 within 1"};
        for (String ahead : wantWith) {
            misplaced(ahead, 2, noWith);
        }
        misplaced("limit 1", 2, "5", "(", ")", "&", "|", "x", "rail", "limit", "retry", "fall");
        misplaced("retry 1 1", 2, "5", "(", ")", "&", "|", "x", "rail", "limit", "retry", "fall");
        String[] wantUnit = {"rail a 1 1 when", "rail a 1 1 when (", "rail a 1 1 when a &", "rail a 1 1 when a |",
            "rail a 1 1 when ( a |"};
        for (String ahead : wantUnit) {
            misplaced(ahead, 2, "5", ")", "&", "|", ";");
        }
        String[] noJoin = {"5", "(", "x", "a", "key", "when", "fall", "rail"};
        misplaced("rail a 1 1 when a", 2, noJoin);
        misplaced("rail a 1 1 when a", 2, ")");
        misplaced("rail a 1 1 when ( a )", 2, noJoin);
        misplaced("rail a 1 1 when ( a )", 2, ")");
        misplaced("rail a 1 1 when ( a", 2, noJoin);
        misplaced("rail a 1 1 when ( a", 2, ";");
    }

    private static void theEnd() {
        Due.says("or the end: the length");
        String[] open = {"rail", "rail a", "rail a 1", "rail a 1 1", "rail a 1 1 fall", "rail a 1 1 fall 1",
            "rail a 1 1 draw", "rail a 1 1 draw 1", "rail a 1 1 draw 1 1", "rail a 1 1 wait", "rail a 1 1 wait 1",
            "rail a 1 1 within", "rail a 1 1 within 1", "rail a 1 1 when", "rail a 1 1 when (", "rail a 1 1 when (a",
            "rail a 1 1 when (a)", "rail a 1 1 when a", "rail a 1 1 when a &", "rail a 1 1 when a |",
            "rail a 1 1 when key", "limit", "limit 1", "retry", "retry 1", "retry 1 1", "rail a 1 1;rail b",
            "limit 1;retry"};
        for (String text : open) {
            refused(text, 2, text.length());
            refused(text + "   ", 2, text.length() + 3);
        }
    }

    private static void everyPrefix() {
        Due.says("FAULTS, the first met as it is read");
        String text = "rail a 2 12;";
        int[] faults = {0, 2, 2, 2, 2, 2, 2, 2, 2, 2, 3, 3, 3};
        int[] places = {0, 0, 0, 0, 4, 5, 6, 7, 8, 9, 9, 9, 9};
        for (int n = 1; n <= text.length(); n++) {
            refused(text.substring(0, n), faults[n], places[n]);
        }
    }

    private static void mostBelowLeast() {
        Due.says("3 a NUMBER out of its bounds (MOST below LEAST)");
        for (int least = 1; least <= 9; least++) {
            taken("rail a " + least + " " + least + ";", 1);
            refused("rail a " + least + " " + (least - 1) + ";", 3, 9);
        }
        refused("rail a 9 1;", 3, 9);
        refused("rail a 0 0;", 3, 7);
    }

    private static void noRail() {
        Due.says("a NAME that is no R where one must be");
        refused("rail key 1 1;", 3, 5);
        refused("rail aa 1 1;", 3, 5);
        refused("rail rail 1 1;", 3, 5);
        for (char c = 'i'; c <= 'z'; c++) {
            refused("rail " + c + " 1 1;", 3, 5);
            refused("rail a 1 1 when " + c + ";", 3, 16);
        }
        String[] ahead = {"", "(", "a & ", "a | ", "((key) & "};
        for (String s : ahead) {
            refused("rail a 1 1 when " + s + "ab;", 3, 16 + s.length());
            refused("rail a 1 1 when " + s + "fall;", 3, 16 + s.length());
            refused("rail a 1 1 when " + s + "ke;", 3, 16 + s.length());
            refused("rail a 1 1 when " + s + "keys;", 3, 16 + s.length());
        }
    }

    private static void outOfTurn() {
        Due.says("an R out of its turn");
        for (int n = 0; n < 8; n++) {
            for (char c = 'a'; c <= 'h'; c++) {
                String text = rails(n) + "rail " + c + " 1 1;";
                if (c == 'a' + n) {
                    taken(text, n + 1);
                } else {
                    refused(text, 3, 11 * n + 5);
                }
            }
        }
    }

    private static void secondTime() {
        Due.says("4 a with, limit, retry for the second time (its NAME)");
        String[] withs = {"fall 1", "draw 1 1", "wait 1", "within 1"};
        for (String with : withs) {
            String once = "rail a 1 1 " + with + " ";
            String name = with.substring(0, with.indexOf(' '));
            refused(once + with + ";", 4, once.length());
            refused(once + name, 4, once.length());
            refused(once + name + " #", 4, once.length());
            for (String other : withs) {
                if (!other.equals(with)) {
                    refused(once + other + " " + with + ";", 4, once.length() + other.length() + 1);
                }
            }
            taken(once + ";rail b 1 1 " + with + ";rail c 1 1 " + with + ";", 3);
            refused(once + ";rail b 1 1 " + with + " " + with + ";", 4, 2 * once.length() + 1);
        }
        for (String rule : new String[] {"limit 1;", "retry 1 1;"}) {
            String name = rule.substring(0, 5);
            refused(rule + rule, 4, rule.length());
            refused(rule + name, 4, rule.length());
            refused(rule + name + " 0;", 4, rule.length());
            refused(rule + rails(2) + rule, 4, rule.length() + 22);
        }
        taken("limit 1;retry 1 1;", 2);
        taken("retry 1 1;limit 1;", 2);
        refused("limit 1;retry 1 1;limit 1;", 4, 18);
        refused("limit 1;retry 1 1;retry 1 1;", 4, 18);
    }

    private static void ninthRail() {
        Due.says("5 the 9th rail (its NAME)");
        taken(rails(8), 8);
        refused(rails(8) + "rail i 1 1;", 5, 88);
        refused(rails(8) + "rail", 5, 88);
        refused(rails(8) + "rail#", 5, 88);
        refused(rails(8) + "   rail 1", 5, 91);
        refused(rails(8) + "limit 1;rail a 1 1;", 5, 96);
        taken(rails(8) + "limit 1;retry 1 1;", 10);
    }

    private static void sixDeep() {
        Due.says("( more than 6 deep (it)");
        for (int deep = 0; deep <= 7; deep++) {
            String text = "rail a 1 1 when " + "(".repeat(deep) + "a" + ")".repeat(deep) + ";";
            if (deep <= 6) {
                taken(text, 1);
            } else {
                refused(text, 5, 22);
            }
        }
        taken("rail a 1 1 when ((((((a))))))&((((((a))))))|((((((key))))));", 1);
        taken("rail a 1 1 when (a)&(a)&(a)&(a)&(a)&(a)&(a)&(a);", 1);
        refused("rail a 1 1 when (a&(a&(a&(a&(a&(a&(", 5, 34);
        refused("rail a 1 1 when ((((((a)|(", 2, 26);
        refused("rail a 1 1 when ((((((a)|((a", 5, 26);
        taken("rail a 1 1 when ((((((a))))));rail b 1 1 when ((((((a))))));", 2);
    }

    private static void railNotTold() {
        Due.says("Behind all: 6 a RAIL in a formula that is not told (LINE by LINE; its R)");
        for (int n = 1; n <= 8; n++) {
            String others = rails(n).substring(11);
            for (char c = 'a'; c <= 'h'; c++) {
                String text = "rail a 1 1 when " + c + ";" + others;
                if (c < 'a' + n) {
                    taken(text, n);
                } else {
                    refused(text, 6, 16);
                }
            }
        }
        refused("rail a 1 1 when a|b;", 6, 18);
        refused("rail a 1 1 when d|c;rail b 1 1 when c;", 6, 16);
        refused("rail a 1 1 when c|d;rail b 1 1 when d;", 6, 16);
        refused("rail a 1 1 when b;rail b 1 1 when key & (a | h) & g;", 6, 45);
        refused("rail a 1 1 when b;limit 7;", 6, 16);
        refused("limit 7;rail a 1 1 when b&b;", 6, 24);
        refused("rail a 1 1 when b;#", 1, 18);
        refused("rail a 1 1 when b;x", 2, 18);
        refused("rail a 1 1 when b;limit 0;", 3, 24);
        refused("rail a 1 1 when b fall 1;", 2, 18);
        refused("limit 1;rail a 1 1 when b;limit 1;", 4, 26);
        refused("rail a 1 1 when b & (((((((a;", 5, 26);
    }

    private static void firstMet() {
        Due.says("FAULTS, the first met as it is read");
        refused("# limit 0;", 1, 0);
        refused("limit 0; #", 3, 6);
        refused("x #", 2, 0);
        refused("limit 1;limit 0;", 4, 8);
        refused("limit 0;limit 1;", 3, 6);
        refused("rail b 0 0 x;", 3, 5);
        refused("rail a 2 1 x;", 3, 9);
        refused("rail a 1 1 x 0;", 2, 11);
        refused("rail a 1 1 fall 10 fall 1;", 3, 16);
        refused("rail a 1 1 when (((((((x", 5, 22);
        refused("rail a 1 1 when x (((((((", 3, 16);
    }

    private static void readWhenTheOneBeforeIsTaken() {
        Due.says("(a TOKEN is read when the one before has been taken)");
        refused("x#", 2, 0);
        refused("rail b#", 3, 5);
        refused("rail a 0#", 3, 7);
        refused("rail a 2 1#", 3, 9);
        refused("rail a 2 1 1000", 3, 9);
        refused("rail a 1 1 x#", 2, 11);
        refused("rail a 1 1 when x#", 3, 16);
        refused("rail a 1 1 when a b#", 2, 18);
        refused("limit 0#", 3, 6);
        refused("limit 1;limit#", 4, 8);
        refused("limit 1#", 1, 7);
        refused("limit 1;#", 1, 8);
        refused("rail#", 1, 4);
        refused("rail a 1 1 fall#", 1, 15);
        refused("rail a 1 1 when (#", 1, 17);
    }

    private static void inPlaceOfWhatThereWas() {
        Due.says("A text that is taken tells all, in place of what there was");
        PowerRails x = Due.of("rail a 2 3 fall 4 draw 5 6 wait 7 within 8 when a;rail b 1 1;limit 9;retry 3 4;");
        Due.is("a new text", Due.tell(x, "rail a 1 1;"), 1);
        int[] due = {1, 1, 1, 1, 2, 0, 0, 256};
        for (int what = 0; what < due.length; what++) {
            Due.is("part " + what, x.rail(0, what), due[what]);
        }
        Due.is("b is no more", x.rail(1, 0), BAD);
        Due.is("limit", x.rule(0), 999);
        Due.is("retry", x.rule(1), 0);
        Due.is("behind", x.rule(2), 5);
        Due.is("an empty text", x.text(), 0);
        Due.is("a is no more", x.rail(0, 0), BAD);
        Due.is("its fault", x.fault(), 0);
    }

    private static void beginsAnew() {
        Due.says("all begins anew: TICK 0, THE KEY off, all RAILS OFF, none DEAD, nothing HAPPENED");
        PowerRails x = Due.of("rail a 1 3 draw 9 1;rail b 1 3;limit 8;retry 2 3;");
        x.key(true);
        x.time(0, 2);
        x.dead(1, true);
        Due.is("a trip", x.go(3), 1);
        Due.is("held", x.now(4), 2);
        Due.is("told again", Due.tell(x, "rail a 2 3;rail b 1 3;retry 4 3;"), 3);
        int[] now = {0, 0, 0, 0, 0, 4, 0, 0, 0};
        for (int what = 0; what < now.length; what++) {
            Due.is("now " + what, x.now(what), now[what]);
        }
        for (int r = 0; r < 2; r++) {
            int[] is = {0, 0, 0, r == 0 ? 2 : 1, 0};
            for (int what = 0; what < is.length; what++) {
                Due.is("is " + r + " " + what, x.is(r, what), is[what]);
            }
        }
        Due.is("none dead", x.count(1), 0);
        Due.is("happenings", x.count(2), 0);
        Due.is("the first happening", x.happened(0, 0), BAD);
        x.go(2);
        Due.is("off while the key is", x.is(0, 0), 0);
    }
}
