/** The boundary cases of the SHEETS, their FAULTS and of promises 29 to 32, each sentence by itself. */
public final class SheetEdgeTest {
    private static final int BAD = PowerRails.BAD, NONE = PowerRails.NONE;
    private static final int[] FAR = {Integer.MIN_VALUE, Integer.MIN_VALUE + 1, -1, Integer.MAX_VALUE};

    public static void main(String[] args) {
        fourSheets();
        threeLanes();
        cellsToForty();
        below0();
        newRow();
        refusedSheetStays();
        layPlaces();
        layFaults();
        lowestBits();
        measuredNothing();
        measuredCast();
        measuredIndex();
        measuredWraps();
        cellOutOfBounds();
        firstMet();
        measuredNumbers();
        ticksToForty();
        theFirstThatIsNot();
        differ();
        measuredByTimes();
        outlivesText();
        counts();
        countRefuses();
        Due.close();
    }

    private static PowerRails sheet(int lane, int... cells) {
        PowerRails x = new PowerRails();
        x.sheet(0, lane, cells.length);
        for (int i = 0; i < cells.length; i++) {
            x.lay(0, i, cells[i]);
        }
        return x;
    }

    private static void fourSheets() {
        Due.says("SHEETS 0 to 3");
        PowerRails x = new PowerRails();
        for (int k = -1; k <= 4; k++) {
            boolean is = k >= 0 && k <= 3;
            Due.is("lay of nothing " + k, x.lay(k, 0, 0), is ? -11 : BAD);
            Due.is("measured of nothing " + k, x.measured(k, 0, 0, 0, 0), is ? -11 : BAD);
            Due.is("sheet " + k, x.sheet(k, 0, 1), is ? 1 : BAD);
            Due.is("lay " + k, x.lay(k, 0, 0), is ? 1 : BAD);
            Due.is("measured " + k, x.measured(k, 0, 0, 1, 0), is ? 1 : BAD);
        }
        for (int far : FAR) {
            Due.is("sheet " + far, x.sheet(far, 0, 1), BAD);
            Due.is("lay " + far, x.lay(far, 0, 1), BAD);
            Due.is("measured " + far, x.measured(far, 0, 0, 0, 0), BAD);
        }
    }

    private static void threeLanes() {
        Due.says("rows of BYTES (lane 0), SHORTS (1), INTS (2)");
        PowerRails x = new PowerRails();
        for (int lane = -1; lane <= 3; lane++) {
            boolean is = lane >= 0 && lane <= 2;
            Due.is("sheet of lane " + lane, x.sheet(0, lane, 2), is ? 1 : BAD);
            for (int as = -1; as <= 3; as++) {
                int due = as < 0 || as > 2 ? BAD : lane < 0 ? -11 : as == Math.min(lane, 2) ? 0 : -13;
                Due.is("lane " + lane + " as of " + as, x.measured(0, as, 0, 0, 0), due);
            }
        }
        for (int far : FAR) {
            Due.is("lane " + far, x.sheet(0, far, 2), BAD);
            Due.is("as of lane " + far, x.measured(0, far, 0, 0, 0), BAD);
        }
    }

    private static void cellsToForty() {
        Due.says("with 0 to 40 CELLS; BAD: also n above 40");
        for (int n = 0; n <= 40; n++) {
            PowerRails x = new PowerRails();
            Due.is("sheet of " + n, x.sheet(0, n % 3, n), 1);
            Due.is("cells of " + n, x.count(5), n);
            Due.is("the last of " + n, x.lay(0, n - 1, 7), n == 0 ? -12 : 1);
            Due.is("one behind " + n, x.lay(0, n, 7), -12);
        }
        PowerRails y = new PowerRails();
        for (int n : new int[] {41, 42, 400, Integer.MAX_VALUE}) {
            Due.is("sheet of " + n, y.sheet(0, 0, n), BAD);
            Due.is("nothing still", y.count(5), NONE);
        }
    }

    private static void below0() {
        Due.says("4 SIZE (below 0): -10 - 4");
        PowerRails x = new PowerRails();
        for (int n : new int[] {-1, -2, -41, Integer.MIN_VALUE}) {
            for (int k = 0; k <= 3; k++) {
                Due.is("sheet of " + n, x.sheet(k, k % 3, n), -14);
                Due.is("nothing still", x.lay(k, 0, 0), -11);
            }
            Due.is("no such sheet first " + n, x.sheet(4, 0, n), BAD);
            Due.is("no such sheet first -1 " + n, x.sheet(-1, 0, n), BAD);
            Due.is("no such lane first " + n, x.sheet(0, 3, n), BAD);
            Due.is("no such lane first -1 " + n, x.sheet(0, -1, n), BAD);
        }
    }

    private static void newRow() {
        Due.says("A SHEET is a new row of CELLS 0: 1.");
        PowerRails x = sheet(2, 5, 6, 7);
        Due.is("apart", x.measured(0, 2, 0, 3, 2), 18);
        Due.is("anew", x.sheet(0, 2, 3), 1);
        Due.is("cells of 0", x.measured(0, 2, 0, 3, 2), 0);
        x.lay(0, 0, 9);
        Due.is("of fewer cells", x.sheet(0, 2, 1), 1);
        Due.is("the only one is 0", x.measured(0, 2, 0, 1, 2), 0);
        Due.is("no second", x.measured(0, 2, 1, 1, 2), -12);
        Due.is("of more cells", x.sheet(0, 2, 40), 1);
        Due.is("all of them 0", x.measured(0, 2, 0, 40, 2), 0);
        Due.is("of another lane", x.sheet(0, 0, 3), 1);
        Due.is("not of that before", x.measured(0, 2, 0, 3, 2), -13);
        x.lay(0, 1, 300);
        Due.is("its cells are bytes", x.measured(0, 0, 0, 3, 2), 44);
        Due.is("others are nothing", x.lay(1, 0, 0), -11);
    }

    private static void refusedSheetStays() {
        Due.says("sheet: what is refused changes nothing");
        PowerRails x = sheet(1, 500, 6, 7);
        int[][] refused = {{0, 1, 41}, {0, 3, 2}, {0, -1, 2}, {0, 0, -1}, {4, 0, 2}, {-1, 0, 2}};
        for (int[] call : refused) {
            x.sheet(call[0], call[1], call[2]);
            Due.is("cells", x.count(5), 3);
            Due.is("what they hold, as shorts", x.measured(0, 1, 0, 3, 2), 513);
        }
    }

    private static void layPlaces() {
        Due.says("CELL i of a SHEET becomes v (its lowest bits): 1.");
        PowerRails x = new PowerRails();
        x.sheet(3, 2, 40);
        Due.is("the first", x.lay(3, 0, 1), 1);
        Due.is("the last", x.lay(3, 39, 2), 1);
        Due.is("only those", x.measured(3, 2, 0, 40, 2), 3);
        Due.is("the first alone", x.measured(3, 2, 0, 1, 2), 1);
        Due.is("the last alone", x.measured(3, 2, 39, 1, 2), 2);
        Due.is("again", x.lay(3, 39, 5), 1);
        Due.is("in place of what there was", x.measured(3, 2, 39, 1, 2), 5);
    }

    private static void layFaults() {
        Due.says("lay: BAD: k; -10 less the FAULT: NULL, INDEX.");
        PowerRails x = sheet(2, 1, 2, 3);
        for (int i : new int[] {-1, 3, 4, 39, 40, Integer.MIN_VALUE, Integer.MAX_VALUE}) {
            Due.is("cell " + i, x.lay(0, i, 9), -12);
            Due.is("cell of nothing " + i, x.lay(1, i, 9), -11);
            Due.is("cell of no sheet " + i, x.lay(4, i, 9), BAD);
        }
        Due.is("nothing laid", x.measured(0, 2, 0, 3, 2), 6);
        x.sheet(1, 0, 0);
        Due.is("a row without cells", x.lay(1, 0, 9), -12);
    }

    private static void laid(int lane, int v, int due) {
        Due.is("lane " + lane + ": " + v, sheet(lane, v).measured(0, lane, 0, 1, 2), due);
    }

    private static void lowestBits() {
        Due.says("becomes v (its lowest bits)");
        int[] bytes = {0, 1, 127, 256, 257, 383, 512, -256, -255, 65536, Integer.MIN_VALUE};
        int[] asBytes = {0, 1, 127, 0, 1, 127, 0, 0, 1, 0, 0};
        for (int i = 0; i < bytes.length; i++) {
            laid(0, bytes[i], asBytes[i]);
        }
        for (int v : new int[] {128, 255, 384, 511, -1, -128, Integer.MAX_VALUE}) {
            laid(0, v, -20);
        }
        int[] shorts = {128, 255, 256, 9999, 65536, 65537, 75535, -65536, -65535, Integer.MIN_VALUE};
        int[] asShorts = {128, 255, 256, 9999, 0, 1, 9999, 0, 1, 0};
        for (int i = 0; i < shorts.length; i++) {
            laid(1, shorts[i], asShorts[i]);
        }
        for (int v : new int[] {10000, 32767, 32768, 65535, -1, -32768, 75536, Integer.MAX_VALUE}) {
            laid(1, v, -20);
        }
        int[] ints = {0, 9999, 255, 256, 9998};
        for (int v : ints) {
            laid(2, v, v);
        }
        for (int v : new int[] {10000, 65536, 65537, -1, -65536, Integer.MIN_VALUE, Integer.MAX_VALUE}) {
            laid(2, v, -20);
        }
    }

    private static void measuredNothing() {
        Due.says("1 NULL (nothing)");
        PowerRails x = new PowerRails();
        for (int k = 0; k <= 3; k++) {
            Due.is("of no ticks", x.measured(k, 0, 0, 0, 0), -11);
            Due.is("of forty", x.measured(k, 2, -5, 40, 2), -11);
        }
        x.sheet(2, 1, 0);
        Due.is("a row without cells is not nothing", x.measured(2, 1, 0, 0, 0), 0);
        Due.is("and has another lane", x.measured(2, 0, 0, 0, 0), -13);
        Due.is("and no cell 0", x.measured(2, 1, 0, 1, 0), -12);
    }

    private static void measuredCast() {
        Due.says("3 CAST (another lane)");
        for (int lane = 0; lane <= 2; lane++) {
            PowerRails x = sheet(lane, 1, 2);
            for (int as = 0; as <= 2; as++) {
                Due.is("lane " + lane + " as of " + as, x.measured(0, as, 0, 2, 2), as == lane ? 3 : -13);
                Due.is("of no ticks " + lane + " as of " + as, x.measured(0, as, 0, 0, 2), as == lane ? 0 : -13);
            }
        }
    }

    private static void measuredIndex() {
        Due.says("then CELL by CELL INDEX");
        PowerRails x = sheet(2, 0, 0, 0);
        for (int f = -2; f <= 4; f++) {
            for (int n = 0; n <= 5; n++) {
                boolean within = n == 0 || f >= 0 && f + n <= 3;
                Due.is("from " + f + " of " + n, x.measured(0, 2, f, n, 0), within ? n : -12);
            }
        }
    }

    private static void measuredWraps() {
        Due.says("of TICK t in CELL f + t");
        PowerRails x = sheet(0, 0, 0);
        for (int f : new int[] {Integer.MAX_VALUE, Integer.MAX_VALUE - 1, Integer.MIN_VALUE, Integer.MIN_VALUE + 40, -40, -1}) {
            Due.is("from " + f, x.measured(0, 0, f, 40, 0), -12);
            Due.is("of one tick from " + f, x.measured(0, 0, f, 1, 0), -12);
            Due.is("of no ticks from " + f, x.measured(0, 0, f, 0, 0), 0);
        }
    }

    private static void cellOutOfBounds() {
        Due.says("-20 less t: CELL f + t is below 0 or above 9999");
        PowerRails x = new PowerRails();
        x.sheet(0, 2, 40);
        x.lay(0, 39, -1);
        Due.is("short of it", x.measured(0, 2, 0, 39, 0), 39);
        for (int f = 0; f < 40; f++) {
            Due.is("from " + f, x.measured(0, 2, f, 40 - f, f % 3), -20 - (39 - f));
        }
        x.lay(0, 39, 9999);
        Due.is("9999", x.measured(0, 2, 0, 40, 2), 9999);
        x.lay(0, 39, 10000);
        Due.is("10000", x.measured(0, 2, 0, 40, 2), -59);
        x.lay(0, 39, 0);
        Due.is("0", x.measured(0, 2, 0, 40, 2), 0);
    }

    private static void firstMet() {
        Due.says("BAD: k, lane, n, what; -10 less the FAULT: NULL, CAST, then CELL by CELL INDEX; -20 less t; the first met");
        PowerRails x = sheet(1, 0, -1, 5);
        Due.is("what ahead of nothing", x.measured(1, 1, 0, 1, 3), BAD);
        Due.is("n ahead of nothing", x.measured(1, 1, 0, 41, 0), BAD);
        Due.is("lane ahead of nothing", x.measured(1, 3, 0, 1, 0), BAD);
        Due.is("what ahead of another lane", x.measured(0, 0, 0, 1, -1), BAD);
        Due.is("n ahead of another lane", x.measured(0, 0, 0, -1, 0), BAD);
        Due.is("nothing ahead of a cell", x.measured(1, 1, -1, 1, 0), -11);
        Due.is("another lane ahead of a cell", x.measured(0, 2, -1, 1, 0), -13);
        Due.is("another lane ahead of its numbers", x.measured(0, 2, 1, 1, 0), -13);
        Due.is("the number ahead of the end", x.measured(0, 1, 0, 9, 0), -21);
        Due.is("the end", x.measured(0, 1, 2, 9, 0), -12);
        Due.is("ahead of the row, then the number", x.measured(0, 1, -1, 9, 0), -12);
        x.lay(0, 0, 10000);
        Due.is("the first of two numbers", x.measured(0, 1, 0, 3, 2), -20);
    }

    private static void measuredNumbers() {
        Due.says("measured: BAD: k, lane, n, what");
        PowerRails x = sheet(1, 0, 0, 0);
        for (int far : new int[] {-1, 4, Integer.MIN_VALUE, Integer.MAX_VALUE}) {
            Due.is("k " + far, x.measured(far, 1, 0, 1, 0), BAD);
            Due.is("lane " + far, x.measured(0, far, 0, 1, 0), BAD);
            Due.is("what " + far, x.measured(0, 1, 0, 1, far), BAD);
        }
        Due.is("lane 3", x.measured(0, 3, 0, 1, 0), BAD);
        Due.is("what 3", x.measured(0, 1, 0, 1, 3), BAD);
        Due.is("what 2", x.measured(0, 1, 0, 1, 2), 0);
    }

    private static void ticksToForty() {
        Due.says("n (0 to 40) TICKS from 0 on");
        PowerRails x = new PowerRails();
        x.sheet(0, 0, 40);
        for (int n = 0; n <= 40; n++) {
            Due.is("of " + n, x.measured(0, 0, 0, n, 0), n);
        }
        for (int n : new int[] {-1, 41, Integer.MIN_VALUE, Integer.MAX_VALUE}) {
            Due.is("of " + n, x.measured(0, 0, 0, n, 0), BAD);
        }
    }

    private static void theFirstThatIsNot() {
        Due.says("the first that is not (1; NONE)");
        PowerRails x = new PowerRails();
        x.sheet(0, 0, 40);
        Due.is("none", x.measured(0, 0, 0, 40, 1), NONE);
        x.lay(0, 39, 1);
        Due.is("the last", x.measured(0, 0, 0, 40, 1), 39);
        Due.is("short of it", x.measured(0, 0, 0, 39, 1), NONE);
        Due.is("by ticks, not cells", x.measured(0, 0, 39, 1, 1), 0);
        x.lay(0, 0, 1);
        Due.is("the first", x.measured(0, 0, 0, 40, 1), 0);
        Due.is("of no ticks", x.measured(0, 0, 0, 0, 1), NONE);
    }

    private static void differ() {
        Due.says("by how much they differ, without signs, summed (2)");
        PowerRails x = Due.of("rail a 2 2 draw 5 9;");
        x.sheet(0, 2, 40);
        int[] cells = {9, 0, 6, 4, 9999};
        for (int i = 0; i < cells.length; i++) {
            x.lay(0, i, cells[i]);
        }
        int[] due = {0, 0, 9, 10, 11, 10005, 10010};
        for (int n = 0; n < due.length; n++) {
            Due.is("of " + n, x.measured(0, 2, 0, n, 2), due[n]);
        }
        Due.is("how many are", x.measured(0, 2, 0, 5, 0), 1);
        for (int i = 0; i < 40; i++) {
            x.lay(0, i, 9999);
        }
        Due.is("the most", x.measured(0, 2, 0, 40, 2), 40 * 9999 - 2 * 9 - 38 * 5);
    }

    private static void measuredByTimes() {
        Due.says("how many are what is DRAWN by TIMES (what 0)");
        PowerRails x = Due.of("rail a 1 3 draw 5 9;");
        x.sheet(0, 0, 3);
        x.lay(0, 0, 9);
        x.lay(0, 1, 9);
        x.lay(0, 2, 5);
        Due.is("a takes 1", x.measured(0, 0, 0, 3, 0), 2);
        x.time(0, 2);
        Due.is("a takes 2", x.measured(0, 0, 0, 3, 0), 3);
        x.time(0, 3);
        Due.is("a takes 3", x.measured(0, 0, 0, 3, 1), 2);
        x.dead(0, true);
        Due.is("a is dead", x.measured(0, 0, 0, 3, 0), 0);
        Due.is("a is dead: apart", x.measured(0, 0, 0, 3, 2), 23);
    }

    private static void outlivesText() {
        Due.says("A text that is taken tells all, in place of what there was (of SHEETS it tells nothing)");
        PowerRails x = sheet(1, 300, 2);
        Due.tell(x, "rail a 1 1;");
        Due.is("cells", x.count(5), 2);
        Due.is("what they hold", x.measured(0, 1, 0, 2, 2), 298 + 1);
    }

    private static void counts() {
        Due.says("How many: 0 RAILS, 1 DEAD ones, 2 HAPPENINGS, 3 ways of ALL TIMES, 4 bytes, 5 CELLS of SHEET 0");
        PowerRails x = Due.of("rail a 1 9;rail b 2 3;");
        x.dead(1, true);
        x.key(true);
        x.go(1);
        x.feed(0L);
        x.end(3);
        x.sheet(0, 0, 17);
        x.sheet(1, 0, 18);
        int[] due = {2, 1, 4, 18, 3, 17};
        for (int what = 0; what < due.length; what++) {
            Due.is("count " + what, x.count(what), due[what]);
        }
        Due.says("5 CELLS of SHEET 0 (NONE: nothing)");
        PowerRails y = new PowerRails();
        y.sheet(1, 0, 5);
        Due.is("nothing", y.count(5), NONE);
        y.sheet(0, 0, 0);
        Due.is("no cells", y.count(5), 0);
        Due.says("3 ways of ALL TIMES (SPENT: more than 20000)");
        Due.is("19683", Due.of("rail a 1 9;rail b 1 9;rail c 1 9;rail d 1 9;rail e 1 3;").count(3), 19683);
        Due.is("26244", Due.of("rail a 1 9;rail b 1 9;rail c 1 9;rail d 1 9;rail e 1 4;").count(3), PowerRails.SPENT);
    }

    private static void countRefuses() {
        Due.says("count: BAD.");
        PowerRails x = new PowerRails();
        for (int what : new int[] {-1, 6, 7, Integer.MIN_VALUE, Integer.MAX_VALUE}) {
            Due.is("count " + what, x.count(what), BAD);
        }
    }
}
