/** Promises 24 to 28: down, cut, need, must, seen. */
public final class DeathTest {
    private static final String NET = "rail a 1 1;rail b 1 1;rail c 1 1 when a | b;rail d 1 1 when c & b;"
        + "rail e 1 1 when d | a;rail f 1 1 when f & a;";

    public static void main(String[] args) {
        down();
        downWithDead();
        cut();
        cutOfSeveral();
        need();
        needOfSeveral();
        must();
        withDead();
        seen();
        seenIgnoresDead();
        refused();
        Due.close();
    }

    private static void down() {
        PowerRails x = Due.of(NET);
        Due.is("by none", x.down(0), 0);
        Due.is("by a", x.down(1), 1);
        Due.is("by b", x.down(2), 10);
        Due.is("by a and b", x.down(3), 31);
        Due.is("by c", x.down(4), 12);
        Due.is("by f, which is not up", x.down(32), 0);
        Due.is("by all", x.down(63), 31);
    }

    private static void downWithDead() {
        PowerRails x = Due.of(NET);
        x.dead(0, true);
        Due.is("by b without a", x.down(2), 30);
        Due.is("by a, which is dead", x.down(1), 0);
    }

    private static void cut() {
        PowerRails x = Due.of(NET);
        Due.is("a: by no others", x.cut(0, 0), PowerRails.NONE);
        Due.is("a: none of them", x.cut(0, 1), PowerRails.NONE);
        Due.is("c: two", x.cut(2, 0), 2);
        Due.is("c: a and b", x.cut(2, 1), 3);
        Due.is("d: one", x.cut(3, 0), 1);
        Due.is("d: b, less than c", x.cut(3, 1), 2);
        Due.is("e: a and b", x.cut(4, 1), 3);
        Due.is("f is not up", x.cut(5, 0), PowerRails.STATE);
    }

    private static void cutOfSeveral() {
        PowerRails x = Due.of("rail a 1 1 when (b | c) & d | e & d;rail b 1 1;rail c 1 1;rail d 1 1 when f & e;rail e 1 1;rail f 1 1;");
        Due.is("one", x.cut(0, 0), 1);
        Due.is("the least bits", x.cut(0, 1), 8);
        PowerRails y = Due.of("rail a 1 1;rail b 1 1;rail c 1 1 when a & b | d & e;rail d 1 1;rail e 1 1;");
        Due.is("two", y.cut(2, 0), 2);
        Due.is("a and d", y.cut(2, 1), 9);
    }

    private static void need() {
        PowerRails x = Due.of(NET);
        Due.is("a: itself", x.need(0, 1), 1);
        Due.is("a: one", x.need(0, 0), 1);
        Due.is("c: two", x.need(2, 0), 2);
        Due.is("c: a", x.need(2, 1), 5);
        Due.is("d: three", x.need(3, 0), 3);
        Due.is("d: b and c", x.need(3, 1), 14);
        Due.is("e: a", x.need(4, 1), 17);
        Due.is("f is not up", x.need(5, 0), PowerRails.STATE);
    }

    private static void needOfSeveral() {
        PowerRails x = Due.of("rail a 1 1 when b & c | d;rail b 1 1;rail c 1 1;rail d 1 1 when e;rail e 1 1;");
        Due.is("three", x.need(0, 0), 3);
        Due.is("b and c, the least bits", x.need(0, 1), 7);
        PowerRails y = Due.of("rail a 1 1;rail b 1 1 when a;rail c 1 1 when b;rail d 1 1 when c;"
            + "rail e 1 1 when d;rail f 1 1 when e;rail g 1 1 when f;rail h 1 1 when g;");
        Due.is("all eight", y.need(7, 0), 8);
        Due.is("all", y.need(7, 1), 255);
    }

    private static void must() {
        PowerRails x = Due.of(NET);
        Due.is("a", x.must(0), 1);
        Due.is("c", x.must(2), 4);
        Due.is("d", x.must(3), 14);
        Due.is("e", x.must(4), 16);
        Due.is("f is not up", x.must(5), PowerRails.STATE);
    }

    private static void withDead() {
        PowerRails x = Due.of(NET);
        x.dead(0, true);
        Due.is("a is dead", x.cut(0, 0), PowerRails.STATE);
        Due.is("a needs", x.need(0, 0), PowerRails.STATE);
        Due.is("a must", x.must(0), PowerRails.STATE);
        Due.is("c is cut by b", x.cut(2, 1), 2);
        Due.is("c needs b", x.need(2, 1), 6);
        Due.is("c must have b", x.must(2), 6);
        Due.is("e needs all that is left", x.need(4, 1), 30);
    }

    private static void seen() {
        PowerRails x = Due.of(NET);
        Due.is("all that can be", x.seen(31), 256 + 32);
        Due.is("a is dead", x.seen(30), 1);
        Due.is("b is dead", x.seen(21), 2);
        Due.is("c is dead", x.seen(19), 4);
        Due.is("d is dead", x.seen(23), 8);
        Due.is("e is dead", x.seen(15), 16);
        Due.is("nothing explains it", x.seen(0), 0);
        Due.is("f can not be", x.seen(63), 0);
        PowerRails y = Due.of("rail a 1 1;rail b 1 1 when a & c;rail c 1 1 when a & b;");
        Due.is("b, c, or none", y.seen(1), 256 + 6);
    }

    private static void seenIgnoresDead() {
        PowerRails x = Due.of(NET);
        x.dead(1, true);
        Due.is("all that can be", x.seen(31), 256 + 32);
        Due.is("b is dead", x.seen(21), 2);
    }

    private static void refused() {
        PowerRails x = Due.of(NET);
        Due.is("down of g", x.down(64), PowerRails.BAD);
        Due.is("down of the key", x.down(256), PowerRails.BAD);
        Due.is("down below 0", x.down(-1), PowerRails.BAD);
        Due.is("seen g", x.seen(64), PowerRails.BAD);
        Due.is("seen the key", x.seen(256), PowerRails.BAD);
        Due.is("seen below 0", x.seen(Integer.MIN_VALUE), PowerRails.BAD);
        for (int r = -1; r <= 6; r += 7) {
            Due.is("cut of " + r, x.cut(r, 0), PowerRails.BAD);
            Due.is("need of " + r, x.need(r, 0), PowerRails.BAD);
            Due.is("must of " + r, x.must(r), PowerRails.BAD);
        }
        for (int what = -1; what <= 2; what += 3) {
            Due.is("cut what " + what, x.cut(2, what), PowerRails.BAD);
            Due.is("need what " + what, x.need(2, what), PowerRails.BAD);
            Due.is("cut of f what " + what, x.cut(5, what), PowerRails.BAD);
        }
    }
}
