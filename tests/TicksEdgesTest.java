/** The boundary cases of a TICK and of promises 6, 7, 10, 11, 12 and 28, sentence by sentence. */
public final class TicksEdgesTest {
    public static void main(String[] args) {
        numbersOfTicks();
        eachRunning();
        byNumbers();
        askedAhead();
        roundForward();
        roundBackward();
        wholeTurns();
        noTurnsBelowNone();
        wearThen();
        pardonedByX();
        lastTick();
        noTickBehindTheLast();
        draws();
        seeds();
        tried();
        triedWhat();
        seen();
        seenWhenFaded();
        done();
        doneAtTheEnd();
        often();
        oftenOfThoseThatGoBy();
        Bench.end();
    }

    private static Bench going(String drum, String law) {
        Bench b = Bench.of(drum);
        b.orders("0+9");
        Bench.due("law " + law, b.law(law) > 0, true);
        return b;
    }

    private static void numbersOfTicks() {
        Bench.says("TICKS (1 to 240; as many as can) go by: how many DRUMS are RUNNING then; NONE: no such n.");
        Bench b = going("abc", "v0(1=1)");
        Bench.due("1", b.x.ticks(1), 1);
        Bench.due("the tick", b.x.count(0), 1);
        Bench.due("240", b.x.ticks(240), 1);
        Bench.due("the tick", b.x.count(0), 241);
        String before = b.state();
        for (int n : new int[] {0, -1, 241, -240, Integer.MIN_VALUE, Integer.MAX_VALUE}) {
            Bench.due("no such n: " + n, b.x.ticks(n), -1);
        }
        Bench.due("nothing is changed", b.state(), before);
        Bench.due("none is told", new Bench().x.ticks(240), 0);
        Bench all = Bench.of("a", "a", "a", "a", "a", "a", "a", "a");
        all.orders("0+1;1+2;2+3;3+4;4+5;5+6;6+7;7+8");
        all.law("v1(1=1)");
        for (int left = 7; left >= 0; left--) {
            Bench.due("running then", all.x.ticks(1), left);
        }
    }

    private static void eachRunning() {
        Bench.says("A TICK: each RUNNING DRUM");
        Bench b = Bench.of("abc", "abc", "abc");
        b.orders("0+1;1+1;1!");
        b.law("v1(1=1);a5(1=1)");
        b.x.ticks(1);
        b.dueDrumIs(0, 3, 1, 1, 1, 1, 0, 1, 0);
        b.dueDrumIs(1, 3, 0, 1, 0, 0, 1, 0, 0);
        b.dueDrumIs(2, 3, 0, 0, 0, 0, 0, 0, 0);
        Bench.due("wear", b.x.frameIs(0, 1, 1), 5);
        Bench.due("no wear", b.x.frameIs(1, 0, 1), 0);
        Bench.due("no wear", b.x.frameIs(2, 0, 1), 0);
        Bench.due("one DRAW", b.x.count(7), 39022);
        b.x.ticks(2);
        b.dueDrumIs(0, 3, 0, 0, 0, 1, 0, 0, 0);
        int x = b.x.count(7);
        b.x.ticks(9);
        b.dueDrumIs(0, 3, 0, 0, 0, 1, 0, 0, 0);
        Bench.due("none draws", b.x.count(7), x);
        Bench.due("time goes by all the same", b.x.count(0), 12);
    }

    private static void byNumbers() {
        Bench.says("each RUNNING DRUM, by numbers, with a DRAW");
        Bench b = new Bench();
        b.drum(7, "abcdefghijklmnop");
        b.drum(0, "abcdefghijklmnop");
        b.drum(3, "abcdefghijklmnop");
        b.orders("7+1;0+1");
        b.law("vw(1=1)");
        b.x.ticks(1);
        // X is 39022, then 61087
        Bench.due("the first draw", b.x.drumIs(0, 4), 2);
        Bench.due("not running", b.x.drumIs(3, 4), 0);
        Bench.due("the second draw", b.x.drumIs(7, 4), 7);
        Bench.due("X", b.x.count(7), 61087);
    }

    private static void askedAhead() {
        Bench.says("with a DRAW (v, l, a, x asked ahead)");
        Bench b = going("abc", "v1(p=0);l(p=1);a5(p=0);a9(p=1);x(p=1)");
        b.x.ticks(1);
        b.dueDrumIs(0, 3, 1, 9, 1, 1, 0, 1, 0);
        Bench.due("wear", b.x.frameIs(0, 1, 1), 5);
        Bench u = going("a", "v9(1=1);x(u=0);a5(u=9);a7(u=0);l(u=0)");
        u.x.ticks(1);
        u.dueDrumIs(0, 1, 0, 0, 0, 9, 0, 0, 0);
        Bench.due("wear", u.x.frameIs(0, 0, 1), 5);
        // x is asked ahead of the WEAR that is given
        Bench f = going("a", "a99(1=1);x(f=99)");
        f.x.ticks(1);
        f.dueDrumIs(0, 1, 0, 9, 0, 0, 0, 16, 1);
        f.x.ticks(1);
        f.dueDrumIs(0, 1, 0, 9, 0, 0, 1, 16, 1);
    }

    private static void roundForward() {
        Bench.says("it goes v FRAMES on (by l back), round and round");
        for (int frames = 1; frames <= 16; frames++) {
            for (int v = 0; v <= 15; v++) {
                Bench b = going("abcdefghijklmnop".substring(0, frames), "v" + v + "(1=1)");
                Bench.due(v + " on, of " + frames, b.x.tried(1, 10), v % frames);
                b.orders("0@" + (frames - 1));
                Bench.due(v + " on from the last of " + frames, b.x.tried(1, 10), (frames - 1 + v) % frames);
            }
        }
    }

    private static void roundBackward() {
        Bench.says("it goes v FRAMES on (by l back), round and round");
        for (int frames = 1; frames <= 16; frames++) {
            for (int v = 0; v <= 15; v++) {
                Bench b = going("abcdefghijklmnop".substring(0, frames), "l(1=1);v" + v + "(1=1)");
                Bench.due(v + " back, of " + frames, b.x.tried(1, 10), (16 * frames - v) % frames);
                b.orders("0@" + (frames - 1));
                Bench.due(v + " back from the last of " + frames, b.x.tried(1, 10), (17 * frames - 1 - v) % frames);
            }
        }
    }

    private static void wholeTurns() {
        Bench.says("PACE is v, WAY GONE v more; each time WAY GONE is FRAMES or more, it is less by FRAMES and TURNS "
                + "LEFT are one less");
        for (int frames = 1; frames <= 16; frames++) {
            for (int v = 0; v <= 15; v++) {
                Bench b = Bench.of("abcdefghijklmnop".substring(0, frames));
                b.orders("0+99");
                b.law("v" + v + "(1=1);l(t%2=1)");
                b.x.ticks(3);
                Bench.due("turns", b.x.drumIs(0, 2), 99 - 3 * v / frames);
                Bench.due("way gone", b.x.drumIs(0, 3), 3 * v % frames);
                Bench.due("pace", b.x.drumIs(0, 4), v);
            }
        }
    }

    private static void noTurnsBelowNone() {
        Bench.says("TURNS LEFT are one less (0 at least)");
        Bench b = Bench.of("ab");
        b.law("v15(1=1)");
        b.orders("0+7");
        Bench.due("seven whole ones", b.x.ticks(1), 0);
        b.dueDrumIs(0, 2, 1, 0, 1, 15, 0, 1, 0);
        b.orders("0+6");
        Bench.due("eight whole ones", b.x.ticks(1), 0);
        b.dueDrumIs(0, 2, 0, 0, 0, 15, 0, 0, 0);
        b.orders("0+8");
        Bench.due("seven of eight", b.x.ticks(1), 1);
        b.dueDrumIs(0, 2, 1, 1, 1, 15, 0, 1, 0);
        Bench one = Bench.of("a");
        one.law("v15(1=1)");
        one.orders("0+1");
        Bench.due("fifteen of one", one.x.ticks(1), 0);
        one.dueDrumIs(0, 1, 0, 0, 0, 15, 0, 0, 0);
        Bench.due("turns of all", one.x.count(4), 0);
    }

    private static void wearThen() {
        Bench.says("The FRAME at the slit then has a WEAR more.");
        Bench b = going("abc", "v1(1=1);a40(1=1)");
        b.x.ticks(3);
        for (int i = 0; i < 3; i++) {
            Bench.due("wear", b.x.frameIs(0, i, 1), 40);
        }
        b.x.ticks(1);
        Bench.due("wear", b.x.frameIs(0, 1, 1), 80);
        b.law("a19(1=1)");
        b.x.ticks(1);
        Bench.due("80 and 19", b.x.frameIs(0, 1, 1), 99);
        b.x.ticks(1);
        Bench.due("99 and 19", b.x.frameIs(0, 1, 1), 99);
        Bench.due("the others", b.x.frameIs(0, 0, 1) + b.x.frameIs(0, 2, 1), 80);
        // also at the end of the last TURN
        Bench last = Bench.of("ab");
        last.orders("0+1");
        last.law("v2(1=1);a3(1=1)");
        Bench.due("none runs", last.x.ticks(1), 0);
        Bench.due("wear", last.x.frameIs(0, 0, 1), 3);
    }

    private static void pardonedByX() {
        Bench.says("By x it is PARDONED.");
        Bench b = going("abc", "v1(1=1);a5(1=1);x(t=2)");
        Bench.due("not yet", b.x.ticks(2), 1);
        Bench.due("now", b.x.ticks(1), 0);
        // it has gone and worn in that TICK, and no more
        b.dueDrumIs(0, 3, 0, 8, 0, 1, 1, 0, 0);
        Bench.due("wear", b.x.frameIs(0, 0, 1), 5);
        b.x.ticks(9);
        b.dueDrumIs(0, 3, 0, 8, 0, 1, 1, 0, 0);
        b.orders("0?");
        Bench.due("runs again", b.x.ticks(1), 1);
        // an x that does not hold does not take a pardon back
        Bench other = Bench.of("a", "a");
        other.orders("0+9;1+9;1!");
        other.law("x(1=2)");
        other.x.ticks(1);
        Bench.due("pardoned", other.x.count(3), 2);
    }

    /** A land at THE TICK 9999 less so many; DRUM 0 of two FRAMES stands at 0. */
    private static Bench late(int less) {
        Bench b = Bench.of("ab", "c");
        b.orders("0+999");
        for (int i = 0; i < 41; i++) {
            b.x.ticks(240);
        }
        b.x.ticks(159 - less);
        b.law("v1(1=1);a1(1=1)");
        Bench.due("the tick", b.x.count(0), 9999 - less);
        return b;
    }

    private static void lastTick() {
        Bench.says("THE TICK is one more (9999 at most");
        Bench b = late(2);
        Bench.due("to 9998", b.x.ticks(1), 1);
        Bench.due("9998", b.x.count(0), 9998);
        Bench.due("to 9999", b.x.ticks(1), 1);
        Bench.due("9999", b.x.count(0), 9999);
        b.dueDrumIs(0, 2, 0, 998, 0, 1, 0, 0, 0);
        Bench t = late(1);
        t.law("v1(t=98)");
        Bench.due("t of the last one", t.x.tried(9, 2), 1);
        Bench as = late(3);
        Bench.due("as many as can", as.x.ticks(240), 1);
        Bench.due("9999", as.x.count(0), 9999);
        as.dueDrumIs(0, 2, 1, 998, 1, 1, 0, 1, 0);
    }

    private static void noTickBehindTheLast() {
        Bench.says("9999 at most: then none goes by");
        Bench b = late(0);
        String before = b.state();
        Bench.due("one", b.x.ticks(1), 1);
        Bench.due("many", b.x.ticks(240), 1);
        Bench.due("nothing is changed", b.state(), before);
        Bench.due("running", b.x.tried(240, 0), 1);
        Bench.due("gone", b.x.tried(240, 2), 0);
        Bench.due("position", b.x.tried(1, 10), 0);
        Bench.due("keep", b.x.keep(), 9999);
        b.orders("0-999");
        Bench.due("none runs", b.x.ticks(1), 0);
    }

    private static void draws() {
        Bench.says("DRAWS: X = (25173 X + 13849) modulo 65536 (X is THE SEED at first, 1): X modulo 10.");
        Bench b = going("abcdefghijklmnop", "vw(1=1)");
        Bench.due("X at first", b.x.count(7), 1);
        int[] due = {39022, 61087, 20196, 45005, 3882, 21259, 65216, 19417, 30502, 20919};
        for (int x : due) {
            b.x.ticks(1);
            Bench.due("X", b.x.count(7), x);
            Bench.due("the draw", b.x.drumIs(0, 4), x % 10);
        }
        // all that X can be come round
        Bench last = going("ab", "v0(1=1)");
        long x = 65535;
        last.x.seed(65535);
        for (int i = 0; i < 100; i++) {
            x = (25173 * x + 13849) % 65536;
            last.x.ticks(1);
            Bench.due("X", last.x.count(7), x);
        }
    }

    private static void seeds() {
        Bench.says("THE SEED (0 to 65535; X, too): true; false: no such number.");
        Bench b = going("abcdefghijklmnop", "vw(1=1)");
        for (int x : new int[] {0, 1, 65534, 65535}) {
            Bench.due("seed " + x, b.x.seed(x), true);
            Bench.due("X", b.x.count(7), x);
        }
        for (int x : new int[] {-1, 65536, -65536, 131072, Integer.MIN_VALUE, Integer.MAX_VALUE}) {
            Bench.due("seed " + x, b.x.seed(x), false);
            Bench.due("X stays", b.x.count(7), 65535);
        }
        b.x.seed(0);
        b.x.ticks(1);
        Bench.due("X", b.x.count(7), 13849);
        Bench.due("the draw", b.x.drumIs(0, 4), 9);
        b.x.seed(65535);
        b.x.ticks(1);
        Bench.due("X", b.x.count(7), 54212);
        Bench.due("the draw", b.x.drumIs(0, 4), 2);
    }

    /** DRUM 0 of four FRAMES, 3 of three with a GAP, 7 of one that is PARDONED. */
    private static Bench three() {
        Bench b = Bench.of("abcd");
        b.drum(3, "ab-");
        b.drum(7, "a");
        b.orders("0+2;3+9;7+3;7!");
        b.law("v3(k=0);v1(1=1);a50(k=3);x(k=3&t=7)");
        return b;
    }

    private static void tried() {
        Bench.says("TRIED are n TICKS by the DRAWS that will come (nothing is changed).");
        Bench b = three();
        String before = b.state();
        for (int n : new int[] {1, 2, 3, 7, 8, 240}) {
            for (int what : new int[] {0, 1, 2, 10, 13, 17, 20, 23, 27, 30, 33, 37}) {
                b.x.tried(n, what);
            }
        }
        Bench.due("nothing is changed", b.state(), before);
        Bench draws = going("abcdefghijklmnop", "vw(1=1)");
        Bench.due("by the draws that will come", draws.x.tried(3, 2), 2 + 7 + 6);
        Bench.due("the same again", draws.x.tried(3, 2), 2 + 7 + 6);
        draws.x.ticks(3);
        Bench.due("as they came", draws.x.drumIs(0, 1), 15);
    }

    private static void triedWhat() {
        Bench.says("TICKS (1 to 240; as many as can) that are tried");
        Bench b = three();
        int[][] whatN1N8N240 = {
            {0, 9, 0, 0}, {1, 128, 136, 136}, {2, 4, 17, 17},
            {10, 3, 1, 1}, {13, 1, 2, 2}, {17, 0, 0, 0},
            {20, 2, 0, 0}, {23, 9, 7, 7}, {27, 3, 3, 3},
            {30, 0, 0, 0}, {33, 1, 3, 3}, {37, 0, 0, 0}
        };
        for (int[] t : whatN1N8N240) {
            Bench.due("tried 1 " + t[0], b.x.tried(1, t[0]), t[1]);
            Bench.due("tried 8 " + t[0], b.x.tried(8, t[0]), t[2]);
            Bench.due("tried 240 " + t[0], b.x.tried(240, t[0]), t[3]);
            Bench.due("tried 0 " + t[0], b.x.tried(0, t[0]), -1);
            Bench.due("tried -1 " + t[0], b.x.tried(-1, t[0]), -1);
            Bench.due("tried 241 " + t[0], b.x.tried(241, t[0]), -1);
        }
        Bench.says("what 0 RUNNING, 1 PARDONED ones then (bits each), 2 FRAMES gone in all, 10 + k POSITION, 20 + k "
                + "TURNS LEFT, 30 + k how many FRAMES show as GAPS of told DRUM k then; NONE: no such ones.");
        for (int what = -3; what <= 120; what++) {
            boolean told = what % 10 == 0 || what % 10 == 3 || what % 10 == 7;
            boolean is = what >= 0 && what <= 2 || what >= 10 && what < 40 && told;
            Bench.due("tried of " + what, b.x.tried(1, what) == -1, !is);
        }
        Bench none = new Bench();
        Bench.due("none is told", none.x.tried(1, 0), 0);
        Bench.due("none is told", none.x.tried(1, 1), 0);
        Bench.due("none is told", none.x.tried(240, 2), 0);
        Bench.due("none is told", none.x.tried(1, 10), -1);
        Bench.due("least", none.x.tried(1, Integer.MIN_VALUE), -1);
        Bench.due("most", none.x.tried(1, Integer.MAX_VALUE), -1);
    }

    private static void seen() {
        Bench.says("SEEN at a told DRUM behind n TICKS (0 to 240); NONE: no such ones.");
        Bench b = going("ab-", "v1(1=1)");
        int[] due = {0, 1, 16, 0, 1, 16, 0};
        for (int n = 0; n < due.length; n++) {
            Bench.due("seen " + n, b.x.seen(0, n), due[n]);
        }
        Bench.due("240", b.x.seen(0, 240), 0);
        for (int n : new int[] {-1, 241, Integer.MIN_VALUE, Integer.MAX_VALUE}) {
            Bench.due("no such n: " + n, b.x.seen(0, n), -1);
        }
        for (int k : new int[] {-1, 1, 7, 8, Integer.MIN_VALUE, Integer.MAX_VALUE}) {
            Bench.due("no such drum: " + k, b.x.seen(k, 0), -1);
            Bench.due("no such drum: " + k, b.x.seen(k, 1), -1);
        }
        b.orders("0@2");
        Bench.due("now", b.x.seen(0, 0), 16);
        Bench late = late(1);
        late.orders("0@1");
        Bench.due("one can", late.x.seen(0, 1), 0);
        Bench.due("one can", late.x.seen(0, 2), 0);
        Bench.due("none can", late(0).x.seen(0, 1), 0);
    }

    private static void seenWhenFaded() {
        Bench.says("SEEN: what shows at a DRUM's slit behind n TICKS (a GAP: 16)");
        Bench b = going("ab", "a33(1=1)");
        Bench.due("33", b.x.seen(0, 1), 0);
        Bench.due("66", b.x.seen(0, 2), 0);
        Bench.due("99", b.x.seen(0, 3), 16);
        Bench.due("now", b.x.seen(0, 0), 0);
        b.x.ticks(3);
        Bench.due("now", b.x.seen(0, 0), 16);
    }

    private static void done() {
        Bench.says("DONE: a told DRUM in n TICKS (1 to 240; 0: it is not RUNNING); -2: not in these; NONE: no such "
                + "ones.");
        Bench b = Bench.of("ab", "ab", "a", "abcdefghijklmnop");
        b.orders("0+1;1+9;1!;3+16");
        b.law("v1(1=1)");
        Bench.due("by its turn", b.x.done(0, 2), 2);
        Bench.due("by its turn", b.x.done(0, 240), 2);
        Bench.due("not in one", b.x.done(0, 1), -2);
        Bench.due("pardoned", b.x.done(1, 1), 0);
        Bench.due("pardoned", b.x.done(1, 240), 0);
        Bench.due("no turns", b.x.done(2, 240), 0);
        Bench.due("not in 240", b.x.done(3, 240), -2);
        for (int n : new int[] {0, -1, 241, Integer.MIN_VALUE, Integer.MAX_VALUE}) {
            Bench.due("no such n: " + n, b.x.done(0, n), -1);
            Bench.due("no such n, not running: " + n, b.x.done(1, n), -1);
        }
        for (int k : new int[] {-1, 4, 7, 8, Integer.MIN_VALUE, Integer.MAX_VALUE}) {
            Bench.due("no such drum: " + k, b.x.done(k, 1), -1);
        }
        b.orders("3-1");
        Bench.due("in 240 just so", b.x.done(3, 240), 240);
        Bench.due("not in 239", b.x.done(3, 239), -2);
        b.law("x(t=99)");
        Bench.due("in 100 by x", b.x.done(0, 240), 100);
        Bench.due("in 100 by x", b.x.done(0, 100), 100);
        Bench.due("not in 99", b.x.done(0, 99), -2);
        b.law("x(1=1)");
        Bench.due("in the first", b.x.done(0, 1), 1);
    }

    private static void doneAtTheEnd() {
        Bench.says("DONE: behind how many of n TICKS a DRUM is not RUNNING first.");
        Bench b = late(2);
        b.orders("0-999;0+1");
        Bench.due("in the last two", b.x.done(0, 240), 2);
        Bench one = late(1);
        one.orders("0-999;0+1");
        Bench.due("one is not enough", one.x.done(0, 240), -2);
        Bench.due("none goes by", late(0).x.done(0, 240), -2);
        Bench.due("not running", late(0).x.done(1, 240), 0);
    }

    private static void often() {
        Bench.says("OFTEN: a told DRUM, a PICTURE (0 to 16), n TICKS (1 to 240); NONE: no such ones.");
        Bench b = Bench.of("a-p");
        b.orders("0+999");
        b.law("v1(1=1)");
        Bench.due("the first end", b.x.often(0, 16, 1), 1);
        Bench.due("now is no end", b.x.often(0, 0, 1), 0);
        Bench.due("now is no end", b.x.often(0, 0, 2), 0);
        Bench.due("the third", b.x.often(0, 0, 3), 1);
        Bench.due("p", b.x.often(0, 15, 240), 80);
        Bench.due("gap", b.x.often(0, 16, 240), 80);
        Bench.due("a", b.x.often(0, 0, 240), 80);
        Bench.due("b", b.x.often(0, 1, 240), 0);
        for (int picture : new int[] {-1, 17, Integer.MIN_VALUE, Integer.MAX_VALUE}) {
            Bench.due("no such picture: " + picture, b.x.often(0, picture, 1), -1);
        }
        for (int n : new int[] {0, -1, 241, Integer.MIN_VALUE, Integer.MAX_VALUE}) {
            Bench.due("no such n: " + n, b.x.often(0, 0, n), -1);
        }
        for (int k : new int[] {-1, 1, 7, 8, Integer.MIN_VALUE, Integer.MAX_VALUE}) {
            Bench.due("no such drum: " + k, b.x.often(k, 0, 1), -1);
        }
        // one that does not run still shows
        Bench still = Bench.of("b");
        Bench.due("b", still.x.often(0, 1, 240), 240);
        Bench.due("a", still.x.often(0, 0, 240), 0);
        Bench faded = going("a", "a50(1=1)");
        Bench.due("a", faded.x.often(0, 0, 9), 1);
        Bench.due("faded", faded.x.often(0, 16, 9), 8);
    }

    private static void oftenOfThoseThatGoBy() {
        Bench.says("OFTEN: at the ends of how many of n TICKS a PICTURE (a GAP: 16) shows at a DRUM's slit (of those "
                + "that go by).");
        Bench b = late(2);
        Bench.due("two go by", b.x.often(1, 2, 240), 2);
        Bench.due("two go by", b.x.often(1, 2, 2), 2);
        Bench.due("one of them", b.x.often(1, 2, 1), 1);
        Bench.due("one of them", b.x.often(0, 1, 240), 1);
        Bench.due("one of them", b.x.often(0, 0, 240), 1);
        Bench.due("none goes by", late(0).x.often(1, 2, 240), 0);
        Bench.due("none goes by", late(0).x.often(1, 2, 1), 0);
    }
}
