/** The boundary cases of "What it is", "The public face" and the first lines of "Terms", sentence by sentence. */
public final class TermsEdgesTest {
    public static void main(String[] args) {
        calls();
        none();
        drumNumbers();
        frames();
        pictures();
        wear();
        wearOfOneFrame();
        position();
        turnsLeft();
        wayGone();
        pace();
        running();
        theTick();
        Bench.end();
    }

    private static void calls() {
        Bench.says("An object is used for at most 512 calls after it has been made");
        Bench b = new Bench();
        for (int call = 1; call < 512; call++) {
            Bench.due("call " + call, b.x.seed(call), true);
        }
        Bench.due("call 512", b.x.count(7), 511);
        Bench feeds = new Bench();
        for (int call = 1; call <= 512; call++) {
            int due = call <= 13 ? 20 * call : -1;
            Bench.due("feed " + call, feeds.x.feed(call, call, call, call, call), due);
        }
    }

    private static void none() {
        Bench.says("`NONE = -1`: There is none.");
        Bench.due("NONE", RoundSentences.NONE, -1);
    }

    private static void drumNumbers() {
        Bench.says("DRUMS 0 to 7: told or not");
        Bench b = new Bench();
        for (int k = 0; k <= 7; k++) {
            Bench.due("not told", b.x.drumIs(k, 0), -1);
            b.dueDrum(k, "ab".repeat(k + 1), 2 * (k + 1));
            Bench.due("told ones", b.x.count(1), (1 << k + 1) - 1);
        }
        for (int k = 0; k <= 7; k++) {
            Bench.due("frames", b.x.drumIs(k, 0), 2 * (k + 1));
        }
        b.text("abc");
        Bench.due("one below the first", b.x.drum(-1, 3), -1);
        Bench.due("one above the last", b.x.drum(8, 3), -1);
        Bench.due("told ones", b.x.count(1), 255);
    }

    private static void frames() {
        Bench.says("FRAMES (1 to 16)");
        for (int n = 1; n <= 16; n++) {
            Bench b = new Bench();
            b.dueDrum(0, "a".repeat(n), n);
            Bench.due("frames", b.x.drumIs(0, 0), n);
            Bench.due("the last of " + n, b.x.frameIs(0, n - 1, 0), 0);
            Bench.due("one behind the last of " + n, b.x.frameIs(0, n, 0), -1);
            Bench.due("one ahead of the first", b.x.frameIs(0, -1, 0), -1);
        }
        Bench b = new Bench();
        b.dueDrum(0, "a".repeat(17), -6016);
        b.dueDrum(0, "()", -1001);
        Bench.due("not told", b.x.count(1), 0);
    }

    private static void pictures() {
        Bench.says("each a PICTURE a to p (0 to 15) or a GAP");
        Bench b = Bench.of("abcdefghijklmnop", "-");
        for (int i = 0; i < 16; i++) {
            Bench.due("picture", b.x.frameIs(0, i, 0), i);
        }
        Bench.due("a gap", b.x.frameIs(1, 0, 0), 16);
        b.dueDrum(2, "`", -1000);
        b.dueDrum(2, "q", -1000);
        b.dueDrum(2, ",", -1000);
        b.dueDrum(2, ".", -1000);
    }

    private static Bench worn(int wear) {
        Bench b = Bench.of("ab");
        b.orders("0+1");
        b.law("a" + wear + "(1=1)");
        b.x.ticks(1);
        return b;
    }

    private static void wear() {
        Bench.says("each FRAME has WEAR (0 at first; 99 at most: from 99 on it shows as a GAP, FADED)");
        Bench fresh = Bench.of("abcdefghijklmnop");
        for (int i = 0; i < 16; i++) {
            Bench.due("wear at first", fresh.x.frameIs(0, i, 1), 0);
        }
        Bench almost = worn(98);
        Bench.due("98", almost.x.frameIs(0, 0, 1), 98);
        Bench.due("98 shows", almost.x.drumIs(0, 6), 0);
        Bench.due("98 is no gap", almost.x.drumIs(0, 7), 0);
        Bench faded = worn(99);
        Bench.due("99", faded.x.frameIs(0, 0, 1), 99);
        Bench.due("99 shows as a gap", faded.x.drumIs(0, 6), 16);
        Bench.due("99 is a gap", faded.x.drumIs(0, 7), 1);
        Bench.due("the picture is still there", faded.x.frameIs(0, 0, 0), 0);
        for (int more : new int[] {1, 2, 99}) {
            Bench b = worn(98);
            b.law("a" + more + "(1=1)");
            b.x.ticks(1);
            Bench.due("98 and " + more, b.x.frameIs(0, 0, 1), 99);
            b.x.ticks(240);
            Bench.due("99 at most", b.x.frameIs(0, 0, 1), 99);
            Bench.due("as a gap", b.x.drumIs(0, 6), 16);
        }
        // A GAP wears, too, and is counted once.
        Bench gap = Bench.of("-a");
        gap.orders("0+1");
        gap.law("a99(1=1)");
        gap.x.ticks(1);
        Bench.due("wear of a gap", gap.x.frameIs(0, 0, 1), 99);
        Bench.due("gaps", gap.x.drumIs(0, 7), 1);
    }

    private static void wearOfOneFrame() {
        Bench.says("each FRAME has WEAR");
        Bench b = Bench.of("abc", "abc");
        b.orders("0+1;0@1;1@1");
        b.law("a99(1=1)");
        b.x.ticks(1);
        int[] due = {0, 99, 0};
        for (int i = 0; i < 3; i++) {
            Bench.due("wear " + i, b.x.frameIs(0, i, 1), due[i]);
            Bench.due("wear of another drum", b.x.frameIs(1, i, 1), 0);
        }
        Bench.due("gaps", b.x.drumIs(0, 7), 1);
        b.orders("0@0");
        Bench.due("another frame shows", b.x.drumIs(0, 6), 0);
    }

    private static void position() {
        Bench.says("POSITION: the FRAME at the slit (0 at first)");
        Bench b = Bench.of("cde");
        Bench.due("position", b.x.drumIs(0, 1), 0);
        Bench.due("shows", b.x.drumIs(0, 6), 2);
        b.orders("0@2");
        Bench.due("position", b.x.drumIs(0, 1), 2);
        Bench.due("shows", b.x.drumIs(0, 6), 4);
    }

    private static void turnsLeft() {
        Bench.says("TURNS LEFT (0 to 999; 0 at first)");
        Bench b = Bench.of("ab");
        Bench.due("at first", b.x.drumIs(0, 2), 0);
        b.dueOrders("0-1", 1);
        Bench.due("0 is the least", b.x.drumIs(0, 2), 0);
        b.dueOrders("0+998", 1);
        Bench.due("998", b.x.drumIs(0, 2), 998);
        b.dueOrders("0+1", 1);
        Bench.due("999", b.x.drumIs(0, 2), 999);
        b.dueOrders("0+1", 1);
        Bench.due("999 is the most", b.x.drumIs(0, 2), 999);
        b.dueOrders("0+999", 1);
        Bench.due("999 is the most", b.x.drumIs(0, 2), 999);
        b.dueOrders("0-998", 1);
        Bench.due("1", b.x.drumIs(0, 2), 1);
        b.dueOrders("0-1", 1);
        Bench.due("0", b.x.drumIs(0, 2), 0);
        b.dueOrders("0+7;0-999", 2);
        Bench.due("0 is the least", b.x.drumIs(0, 2), 0);
    }

    private static void wayGone() {
        Bench.says("WAY GONE (FRAMES since the last whole TURN; 0 at first)");
        Bench b = Bench.of("abc");
        Bench.due("at first", b.x.drumIs(0, 3), 0);
        b.orders("0+9");
        b.law("v1(1=1)");
        int[] due = {1, 2, 0, 1};
        for (int i = 0; i < due.length; i++) {
            b.x.ticks(1);
            Bench.due("way gone", b.x.drumIs(0, 3), due[i]);
        }
    }

    private static void pace() {
        Bench.says("PACE (0 at first)");
        Bench b = Bench.of("abc");
        Bench.due("at first", b.x.drumIs(0, 4), 0);
        b.orders("0+9");
        b.law("v15(t=0)");
        b.x.ticks(1);
        Bench.due("pace", b.x.drumIs(0, 4), 15);
        b.x.ticks(1);
        Bench.due("it stands still", b.x.drumIs(0, 4), 0);
    }

    private static void running() {
        Bench.says("RUNNING is a told DRUM with TURNS LEFT that is not PARDONED");
        Bench b = Bench.of("a", "a", "a", "a");
        Bench.due("no turns", b.x.count(2), 0);
        b.orders("1+1;2!;3+1;3!");
        Bench.due("one turn", b.x.count(2), 2);
        Bench.due("pardoned ones", b.x.count(3), 12);
        b.orders("3?");
        Bench.due("pardoned no more", b.x.count(2), 10);
        b.orders("1-1");
        Bench.due("no turns any more", b.x.count(2), 8);
        b.orders("3!");
        Bench.due("none", b.x.count(2), 0);
        b.orders("2?");
        Bench.due("not pardoned, but no turns", b.x.count(2), 0);
    }

    private static void theTick() {
        Bench.says("THE TICK (0 at first)");
        Bench b = new Bench();
        Bench.due("at first", b.x.count(0), 0);
        b.x.ticks(1);
        Bench.due("one more", b.x.count(0), 1);
    }
}
