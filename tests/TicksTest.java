/** Promises 6, 7, 10, 11, 12 and 28: ticks, tried, seen, done, often, seed. */
public final class TicksTest {
    public static void main(String[] args) {
        going();
        draws();
        triedOnes();
        seenDoneOften();
        whoRuns();
        lastTick();
        refused();
        Bench.end();
    }

    private static void going() {
        Bench b = new Bench();
        b.drum(1, "abcd");
        b.orders("1+5");
        b.law("v3(1=1)");
        Bench.due("ticks", b.x.ticks(1), 1);
        dueDrum(b, 1, 3, 5, 3, 3);
        Bench.due("ticks", b.x.ticks(1), 1);
        dueDrum(b, 1, 2, 4, 2, 3);
        b.law("v2(1=1);l(1=1)");
        Bench.due("ticks", b.x.ticks(1), 1);
        dueDrum(b, 1, 0, 3, 0, 2);
        Bench.due("ticks", b.x.ticks(1), 1);
        dueDrum(b, 1, 2, 3, 2, 2);
        b.law("v15(1=1)");
        Bench.due("ticks", b.x.ticks(1), 0);
        dueDrum(b, 1, 1, 0, 1, 15);
        Bench.due("ticks", b.x.ticks(240), 0);
        dueDrum(b, 1, 1, 0, 1, 15);
        Bench.due("tick", b.x.count(0), 245);

        // more whole TURNS than are left
        Bench one = new Bench();
        one.drum(0, "a");
        one.orders("0+20");
        one.law("v15(1=1);a1(1=1)");
        Bench.due("ticks", one.x.ticks(1), 1);
        dueDrum(one, 0, 0, 5, 0, 15);
        Bench.due("ticks", one.x.ticks(1), 0);
        dueDrum(one, 0, 0, 0, 0, 15);
        Bench.due("wear", one.x.frameIs(0, 0, 1), 2);

        // without a law nothing goes, but time does
        Bench still = new Bench();
        still.drum(0, "ab");
        still.orders("0+1");
        Bench.due("ticks", still.x.ticks(7), 1);
        dueDrum(still, 0, 0, 1, 0, 0);
        Bench.due("tick", still.x.count(0), 7);
        Bench.due("ticks of none", new Bench().x.ticks(1), 0);
    }

    private static void dueDrum(Bench b, int k, int position, int turns, int way, int pace) {
        Bench.due("position", b.x.drumIs(k, 1), position);
        Bench.due("turns", b.x.drumIs(k, 2), turns);
        Bench.due("way gone", b.x.drumIs(k, 3), way);
        Bench.due("pace", b.x.drumIs(k, 4), pace);
    }

    private static void draws() {
        Bench b = new Bench();
        b.drum(0, "ab");
        b.drum(2, "ab");
        b.drum(5, "ab");
        b.x.ticks(3);
        Bench.due("none runs, none draws", b.x.count(7), 1);
        b.orders("5+9;2+9;0+9;2!");
        b.x.ticks(1);
        Bench.due("two draw", b.x.count(7), 61087);
        int x = 61087;
        for (int i = 0; i < 6; i++) {
            x = (25173 * x + 13849) % 65536;
        }
        b.x.ticks(3);
        Bench.due("two draw thrice", b.x.count(7), x);

        // by numbers: 0 draws 2 (39022), 5 draws 7 (61087)
        Bench two = new Bench();
        two.drum(5, "abcdefghijklmnop");
        two.drum(0, "abcdefghijklmnop");
        two.orders("5+9;0+9");
        two.law("vw(1=1)");
        two.x.ticks(1);
        Bench.due("draw", two.x.drumIs(0, 4), 2);
        Bench.due("draw", two.x.drumIs(5, 4), 7);

        Bench seeded = new Bench();
        Bench.due("seed", seeded.x.seed(0), true);
        Bench.due("X", seeded.x.count(7), 0);
        seeded.drum(0, "ab");
        seeded.orders("0+9");
        seeded.x.ticks(1);
        Bench.due("X", seeded.x.count(7), 13849);
        Bench.due("seed", seeded.x.seed(65535), true);
        Bench.due("X", seeded.x.count(7), 65535);
        seeded.x.ticks(1);
        Bench.due("X", seeded.x.count(7), (25173L * 65535 + 13849) % 65536);
        Bench.due("no such seed", seeded.x.seed(65536), false);
        Bench.due("no such seed", seeded.x.seed(-1), false);
        Bench.due("X", seeded.x.count(7), (25173L * 65535 + 13849) % 65536);
    }

    private static void triedOnes() {
        Bench b = new Bench();
        b.drum(0, "abcd");
        b.drum(3, "ab-");
        b.drum(6, "a");
        b.orders("0+2;3+9;6+3;6!");
        b.law("v3(k=0);v1(1=1);a50(k=3);x(k=3&t=7)");
        String before = b.state();
        Bench.due("running", b.x.tried(1, 0), 9);
        Bench.due("running", b.x.tried(3, 0), 8);
        Bench.due("running", b.x.tried(8, 0), 0);
        Bench.due("pardoned", b.x.tried(7, 1), 64);
        Bench.due("pardoned", b.x.tried(8, 1), 72);
        Bench.due("gone", b.x.tried(1, 2), 4);
        Bench.due("gone", b.x.tried(3, 2), 12);
        Bench.due("gone", b.x.tried(5, 2), 14);
        Bench.due("gone", b.x.tried(240, 2), 17);
        Bench.due("position", b.x.tried(2, 10), 2);
        Bench.due("position", b.x.tried(240, 13), 2);
        Bench.due("position", b.x.tried(240, 16), 0);
        Bench.due("turns", b.x.tried(2, 20), 1);
        Bench.due("turns", b.x.tried(2, 23), 9);
        Bench.due("turns", b.x.tried(240, 26), 3);
        Bench.due("gaps", b.x.tried(3, 33), 1);
        Bench.due("gaps", b.x.tried(4, 33), 2);
        Bench.due("gaps", b.x.tried(5, 33), 2);
        Bench.due("gaps", b.x.tried(6, 33), 3);
        Bench.due("gaps", b.x.tried(240, 30), 0);
        Bench.due("nothing is changed", b.state(), before);
    }

    private static void seenDoneOften() {
        Bench b = new Bench();
        b.drum(2, "ab-c");
        b.orders("2+2");
        b.law("v1(1=1);a33(p=0)");
        String before = b.state();
        int[] seen = {0, 1, 16, 2, 0, 1, 16, 2, 0, 0};
        for (int n = 0; n < seen.length; n++) {
            Bench.due("seen " + n, b.x.seen(2, n), seen[n]);
        }
        Bench.due("seen 240", b.x.seen(2, 240), 0);
        Bench.due("done", b.x.done(2, 8), 8);
        Bench.due("done", b.x.done(2, 240), 8);
        Bench.due("not done", b.x.done(2, 7), -2);
        Bench.due("often a", b.x.often(2, 0, 9), 3);
        Bench.due("often a in those behind the end, too", b.x.often(2, 0, 240), 234);
        Bench.due("often b", b.x.often(2, 1, 240), 2);
        Bench.due("often gap", b.x.often(2, 16, 240), 2);
        Bench.due("often d", b.x.often(2, 3, 240), 0);
        Bench.due("often now is not one", b.x.often(2, 0, 3), 0);
        Bench.due("nothing is changed", b.state(), before);
        b.orders("2!");
        Bench.due("pardoned", b.x.done(2, 1), 0);
        b.orders("2?;2-9");
        Bench.due("no turns", b.x.done(2, 1), 0);

        Bench x = new Bench();
        x.drum(0, "ab");
        x.orders("0+9");
        x.law("x(t=4)");
        Bench.due("done by x", x.x.done(0, 240), 5);
        x.law("a50(1=1)");
        Bench.due("seen", x.x.seen(0, 1), 0);
        Bench.due("faded", x.x.seen(0, 2), 16);
        Bench.due("often faded", x.x.often(0, 16, 5), 4);
        Bench.due("never done", x.x.done(0, 240), -2);
    }

    private static void whoRuns() {
        Bench b = new Bench();
        b.drum(0, "a");
        b.drum(1, "b");
        b.drum(2, "c");
        Bench.due("no turns", b.x.count(2), 0);
        b.orders("0+1;1+1;2+1;1!");
        Bench.due("running", b.x.count(2), 5);
        Bench.due("ticks", b.x.ticks(1), 2);
        b.orders("1?");
        Bench.due("ticks", b.x.ticks(1), 3);
        b.law("x(k=2)");
        Bench.due("ticks", b.x.ticks(1), 2);
        Bench.due("pardoned", b.x.count(3), 4);
    }

    private static void lastTick() {
        Bench b = new Bench();
        b.drum(0, "ab");
        b.orders("0+999");
        b.law("v1(t=99);a1(t=99)");
        for (int i = 0; i < 41; i++) {
            b.x.ticks(240);
        }
        Bench.due("tick", b.x.count(0), 9840);
        Bench.due("ticks", b.x.ticks(158), 1);
        Bench.due("tick", b.x.count(0), 9998);
        b.law("v1(1=1)");
        int position = b.x.drumIs(0, 1);
        Bench.due("one can", b.x.tried(5, 2), 1);
        Bench.due("seen", b.x.seen(0, 5), 1 - position);
        Bench.due("of those that go by", b.x.often(0, 1 - position, 5), 1);
        Bench.due("ticks", b.x.ticks(3), 1);
        Bench.due("tick", b.x.count(0), 9999);
        Bench.due("position", b.x.drumIs(0, 1), 1 - position);
        int x = b.x.count(7);
        Bench.due("none goes by", b.x.ticks(240), 1);
        Bench.due("tick", b.x.count(0), 9999);
        Bench.due("X", b.x.count(7), x);
        Bench.due("none can", b.x.tried(240, 2), 0);
        Bench.due("none can", b.x.tried(240, 0), 1);
        Bench.due("often", b.x.often(0, 1 - position, 240), 0);
        Bench.due("done", b.x.done(0, 240), -2);
        Bench.due("seen", b.x.seen(0, 240), 1 - position);
    }

    private static void refused() {
        Bench b = new Bench();
        b.drum(0, "ab");
        b.orders("0+9");
        b.law("v1(1=1)");
        String before = b.state();
        int[] none = {
            b.x.ticks(0), b.x.ticks(241), b.x.ticks(-1), b.x.ticks(Integer.MIN_VALUE),
            b.x.tried(0, 0), b.x.tried(241, 0), b.x.tried(1, -1), b.x.tried(1, 3), b.x.tried(1, 9),
            b.x.tried(1, 11), b.x.tried(1, 18), b.x.tried(1, 19), b.x.tried(1, 21), b.x.tried(1, 28),
            b.x.tried(1, 31), b.x.tried(1, 38), b.x.tried(1, 39), b.x.tried(1, 40), b.x.tried(1, 110),
            b.x.tried(1, Integer.MIN_VALUE), b.x.tried(1, -10),
            b.x.seen(0, -1), b.x.seen(0, 241), b.x.seen(1, 1), b.x.seen(8, 1), b.x.seen(-1, 1),
            b.x.done(0, 0), b.x.done(0, 241), b.x.done(1, 1), b.x.done(8, 1), b.x.done(-1, 1),
            b.x.often(0, 0, 0), b.x.often(0, 0, 241), b.x.often(0, -1, 1), b.x.often(0, 17, 1),
            b.x.often(1, 0, 1), b.x.often(8, 0, 1), b.x.often(-1, 0, 1)
        };
        for (int i = 0; i < none.length; i++) {
            Bench.due("refused " + i, none[i], -1);
        }
        Bench.due("nothing is changed", b.state(), before);
    }
}
