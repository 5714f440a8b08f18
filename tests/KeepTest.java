/** Promises 29 to 32: keep, undo, check, count. */
public final class KeepTest {
    public static void main(String[] args) {
        keptAndUndone();
        check();
        count();
        Bench.end();
    }

    private static void keptAndUndone() {
        Bench b = new Bench();
        Bench.due("none was kept", b.x.undo(), false);
        b.drum(0, "abc");
        b.drum(1, "-d");
        b.orders("0+9;1+9;1@1;0#2=e");
        b.law("v2(1=1);a9(1=1);x(t=5)");
        b.x.ticks(3);
        String kept = b.state();
        Bench.due("keep", b.x.keep(), 3);
        b.x.ticks(4);
        b.orders("0#0=p;0?;0-9;1@0");
        b.drum(1, "abcdef");
        b.drum(2, "g");
        b.x.seed(77);
        b.text("xyz");
        Bench.due("it changed", b.state().equals(kept), false);
        Bench.due("undo", b.x.undo(), true);
        Bench.due("as it was", b.state(), kept);
        Bench.due("the tape is not kept", b.x.count(6), 20);
        Bench.due("not told again", b.x.drumIs(2, 0), -1);
        Bench.due("DRAWS come as they came", b.x.ticks(3), 0);
        Bench.due("undo again", b.x.undo(), true);
        Bench.due("as it was", b.state(), kept);
        b.x.ticks(1);
        String later = b.state();
        Bench.due("keep", b.x.keep(), 4);
        b.x.ticks(1);
        Bench.due("undo", b.x.undo(), true);
        Bench.due("as it was kept last", b.state(), later);
        // what is told in one is not told in the other
        b.x.check(0);
        b.orders("0#0=k");
        Bench.due("paint", b.x.frameIs(0, 0, 0), 10);
        b.x.undo();
        Bench.due("paint is undone", b.x.frameIs(0, 0, 0), 0);

        Bench empty = new Bench();
        Bench.due("keep", empty.x.keep(), 0);
        empty.drum(0, "a");
        empty.law("v1(1=1)");
        Bench.due("undo", empty.x.undo(), true);
        Bench.due("none told", empty.x.count(1), 0);
        Bench.due("the law stays", empty.x.count(5), 1);
    }

    private static void check() {
        Bench b = new Bench();
        b.drum(0, "abc");
        b.drum(2, "ab");
        b.drum(7, "abcdefghijklmnop");
        b.orders("0@2;7@15");
        Bench.due("right", b.check(2, 255, 0, 255, 255, 255, 255, 15), -1);
        Bench.due("empty then", b.x.count(6), 0);
        Bench.due("right", b.check(2), -1);
        Bench.due("right", b.check(2, 255, 0), -1);
        Bench.due("the first", b.check(1, 255, 1), 0);
        Bench.due("empty then", b.x.count(6), 0);
        Bench.due("not told", b.check(2, 0, 1), 1);
        Bench.due("told", b.check(2, 255, 255), 2);
        Bench.due("the last", b.check(2, 255, 0, 255, 255, 255, 255, 14), 7);
        b.bytes(9, 9, 9);
        Bench.due("nine", b.x.check(9), -2);
        Bench.due("less than none", b.x.check(-1), -2);
        Bench.due("tape stays", b.x.count(6), 20);
        Bench.due("none is right", b.x.check(0), -1);
        Bench.due("empty then", b.x.count(6), 0);
        Bench.due("it has not so many", b.x.check(1), -2);
        Bench.due("none is right", b.x.check(0), -1);
    }

    private static void count() {
        Bench b = new Bench();
        b.drum(1, "abc");
        b.drum(4, "ab");
        b.drum(7, "a");
        b.orders("1+10;4+20;7+30;4!");
        b.law("v1(1=1);v2(1=1);x(1=2)");
        b.x.ticks(2);
        b.text("any");
        int[] due = {2, 146, 130, 16, 10 + 20 + 28, 3, 20, b.x.count(7)};
        for (int what = 0; what < 8; what++) {
            Bench.due("count " + what, b.x.count(what), due[what]);
        }
        int x = 1;
        for (int i = 0; i < 4; i++) {
            x = (25173 * x + 13849) % 65536;
        }
        Bench.due("X", b.x.count(7), x);
        for (int what : new int[] {-1, 8, 100, Integer.MIN_VALUE, Integer.MAX_VALUE}) {
            Bench.due("no such", b.x.count(what), -1);
        }
    }
}
