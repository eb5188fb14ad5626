/** Promises 29 to 32: sheets, their cells, what was measured, counts. */
public final class SheetTest {
    public static void main(String[] args) {
        sheet();
        lay();
        lanes();
        measured();
        measuredFaults();
        measuredOrder();
        measuredFarOff();
        count();
        Due.close();
    }

    private static void sheet() {
        PowerRails x = new PowerRails();
        Due.is("nothing", x.count(5), PowerRails.NONE);
        Due.is("no cells", x.sheet(0, 0, 0), 1);
        Due.is("0", x.count(5), 0);
        Due.is("forty", x.sheet(0, 2, 40), 1);
        Due.is("40", x.count(5), 40);
        Due.is("41", x.sheet(0, 0, 41), PowerRails.BAD);
        Due.is("most", x.sheet(0, 0, Integer.MAX_VALUE), PowerRails.BAD);
        Due.is("lane 3", x.sheet(0, 3, 1), PowerRails.BAD);
        Due.is("lane -1", x.sheet(0, -1, 1), PowerRails.BAD);
        Due.is("sheet 4", x.sheet(4, 0, 1), PowerRails.BAD);
        Due.is("sheet -1", x.sheet(-1, 0, 1), PowerRails.BAD);
        Due.is("size -1", x.sheet(0, 0, -1), -14);
        Due.is("least size", x.sheet(3, 2, Integer.MIN_VALUE), -14);
        Due.is("size -1 of lane 3", x.sheet(0, 3, -1), PowerRails.BAD);
        Due.is("size -1 of sheet 4", x.sheet(4, 0, -1), PowerRails.BAD);
        Due.is("stays", x.count(5), 40);
        Due.is("stays of lane 2", x.measured(0, 2, 0, 0, 0), 0);
        Due.is("stays nothing", x.lay(3, 0, 0), -11);
    }

    private static void lay() {
        PowerRails x = new PowerRails();
        x.sheet(1, 1, 3);
        Due.is("first", x.lay(1, 0, 5), 1);
        Due.is("last", x.lay(1, 2, 5), 1);
        Due.is("behind", x.lay(1, 3, 5), -12);
        Due.is("ahead", x.lay(1, -1, 5), -12);
        Due.is("nothing", x.lay(0, 0, 5), -11);
        Due.is("nothing, whatever cell", x.lay(0, -1, 5), -11);
        Due.is("sheet 4", x.lay(4, 0, 5), PowerRails.BAD);
        Due.is("sheet -1", x.lay(-1, 0, 5), PowerRails.BAD);
        Due.is("apart", x.measured(1, 1, 0, 3, 2), 10);
        Due.is("anew", x.sheet(1, 1, 3), 1);
        Due.is("cells of 0", x.measured(1, 1, 0, 3, 2), 0);
        x.sheet(1, 0, 0);
        Due.is("no cells", x.lay(1, 0, 0), -12);
    }

    private static void laid(int lane, int v, int due) {
        PowerRails x = new PowerRails();
        x.sheet(2, lane, 1);
        x.lay(2, 0, v);
        Due.is("lane " + lane + " of " + v, x.measured(2, lane, 0, 1, 2), due);
    }

    private static void lanes() {
        laid(0, 127, 127);
        laid(0, 128, -20);
        laid(0, 256 + 3, 3);
        laid(0, -256, 0);
        laid(1, 9999, 9999);
        laid(1, 10000, -20);
        laid(1, 32768, -20);
        laid(1, 65536 + 12, 12);
        laid(2, 65536 + 12, -20);
        laid(2, 9999, 9999);
        laid(2, 10000, -20);
        laid(2, -1, -20);
        laid(2, Integer.MAX_VALUE, -20);
    }

    private static PowerRails filled() {
        PowerRails x = Due.of("rail a 2 3 draw 4 9;");
        x.sheet(0, 1, 6);
        int[] cells = {1, 9, 9, 4, 4, 7};
        for (int i = 0; i < cells.length; i++) {
            x.lay(0, i, cells[i]);
        }
        return x;
    }

    private static void measured() {
        PowerRails x = filled();
        Due.is("same from 1", x.measured(0, 1, 1, 4, 0), 4);
        Due.is("no other from 1", x.measured(0, 1, 1, 4, 1), PowerRails.NONE);
        Due.is("not apart from 1", x.measured(0, 1, 1, 4, 2), 0);
        Due.is("same of five", x.measured(0, 1, 1, 5, 0), 4);
        Due.is("the first other", x.measured(0, 1, 1, 5, 1), 4);
        Due.is("apart", x.measured(0, 1, 1, 5, 2), 3);
        Due.is("same from 0", x.measured(0, 1, 0, 6, 0), 3);
        Due.is("first from 0", x.measured(0, 1, 0, 6, 1), 0);
        Due.is("apart from 0", x.measured(0, 1, 0, 6, 2), 8 + 5 + 3);
        x.time(0, 3);
        Due.is("by times", x.measured(0, 1, 1, 4, 1), 2);
        Due.is("of no ticks 0", x.measured(0, 1, 0, 0, 0), 0);
        Due.is("of no ticks 1", x.measured(0, 1, 0, 0, 1), PowerRails.NONE);
        Due.is("of no ticks 2", x.measured(0, 1, 99, 0, 2), 0);
    }

    private static void measuredFaults() {
        PowerRails x = filled();
        Due.is("sheet 4", x.measured(4, 0, 0, 0, 0), PowerRails.BAD);
        Due.is("sheet -1", x.measured(-1, 0, 0, 0, 0), PowerRails.BAD);
        Due.is("lane 3", x.measured(0, 3, 0, 0, 0), PowerRails.BAD);
        Due.is("lane -1", x.measured(0, -1, 0, 0, 0), PowerRails.BAD);
        Due.is("41 ticks", x.measured(0, 1, 0, 41, 0), PowerRails.BAD);
        Due.is("-1 ticks", x.measured(0, 1, 0, -1, 0), PowerRails.BAD);
        Due.is("what 3", x.measured(0, 1, 0, 0, 3), PowerRails.BAD);
        Due.is("what -1", x.measured(0, 1, 0, 0, -1), PowerRails.BAD);
        Due.is("nothing", x.measured(1, 1, 0, 1, 0), -11);
        Due.is("nothing, what 3", x.measured(1, 1, 0, 1, 3), PowerRails.BAD);
        Due.is("bytes", x.measured(0, 0, 0, 1, 0), -13);
        Due.is("ints", x.measured(0, 2, 0, 1, 0), -13);
        Due.is("behind", x.measured(0, 1, 3, 4, 0), -12);
        Due.is("up to the end", x.measured(0, 1, 3, 3, 0), 0);
        Due.is("ahead", x.measured(0, 1, -1, 1, 0), -12);
        Due.is("ahead, bytes", x.measured(0, 0, -1, 1, 0), -13);
    }

    private static void measuredOrder() {
        PowerRails x = filled();
        x.lay(0, 4, -5);
        Due.is("cell 4 at tick 4", x.measured(0, 1, 0, 5, 0), -24);
        Due.is("cell 4 at tick 1", x.measured(0, 1, 3, 2, 1), -21);
        Due.is("cell 4 ahead of the end", x.measured(0, 1, 3, 9, 1), -21);
        Due.is("short of cell 4", x.measured(0, 1, 0, 4, 2), 8 + 5);
        Due.is("the end", x.measured(0, 1, 5, 2, 2), -12);
        x.lay(0, 2, 10000);
        Due.is("cell 2 first", x.measured(0, 1, 0, 6, 2), -22);
    }

    private static void measuredFarOff() {
        PowerRails x = filled();
        Due.is("most", x.measured(0, 1, Integer.MAX_VALUE, 40, 0), -12);
        Due.is("least", x.measured(0, 1, Integer.MIN_VALUE, 40, 0), -12);
        Due.is("most of no ticks", x.measured(0, 1, Integer.MAX_VALUE, 0, 0), 0);
        x.sheet(0, 2, 40);
        Due.is("forty", x.measured(0, 2, 0, 40, 2), 2 * 9 + 38 * 4);
        Due.is("forty from 1", x.measured(0, 2, 1, 40, 2), -12);
    }

    private static void count() {
        PowerRails x = Due.of("rail a 1 3;rail b 2 9;rail c 1 1;");
        Due.is("rails", x.count(0), 3);
        x.dead(0, true);
        x.dead(2, true);
        Due.is("dead", x.count(1), 2);
        Due.is("happenings", x.count(2), 0);
        Due.is("ways, though some are dead", x.count(3), 24);
        x.key(true);
        x.go(1);
        Due.is("six happened", x.count(2), 6);
        x.feed(0L);
        Due.is("bytes", x.count(4), 8);
        x.sheet(1, 0, 3);
        Due.is("sheet 0", x.count(5), PowerRails.NONE);
        Due.is("6", x.count(6), PowerRails.BAD);
        Due.is("-1", x.count(-1), PowerRails.BAD);
    }
}
