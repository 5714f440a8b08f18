import java.util.function.ToLongFunction;

/** Every call that is refused, or only asks, on a land with all there is: it changes nothing but the tape, where it is told. */
public final class RefusedEdgesTest {
    private static final int[] NO_DRUMS = {-1, 1, 6, 8, 100, Integer.MIN_VALUE, Integer.MAX_VALUE};
    private static final int[] NO_TICKS = {0, -1, 241, Integer.MIN_VALUE, Integer.MAX_VALUE};
    private static final int[] ANY = {-1, 2, 3, 17, Integer.MIN_VALUE, Integer.MAX_VALUE};
    private static final String TAPE = "v3(k=0);a9(k=3);l(t>5);x(u<3);v15(1=1);a99(p=16)";

    public static void main(String[] args) {
        Bench.says("A call that is refused (NONE, false) changes nothing but the tape, where it is told.");
        texts();
        drums();
        ticks();
        pairs();
        tapes();
        rest();
        fullTape();
        Bench.says("empty then");
        emptied();
        Bench.says("(nothing is changed)");
        asked();
        Bench.end();
    }

    /** DRUMS 0, 3 and 7, worn and gone; something else is KEPT; the tape holds 60 bytes. */
    private static Bench land() {
        Bench b = Bench.of("abc");
        b.drum(3, "a-b");
        b.drum(7, "abcdefghijklmnop");
        b.orders("0+9;3+5;3!;7+99;7@4");
        b.law("v2(1=1);a30(1=1);l(k=7)");
        b.x.ticks(2);
        b.x.keep();
        b.x.ticks(3);
        b.text(TAPE);
        return b;
    }

    /** All that can be asked of it, by which it is used up. */
    private static String spent(Bench b, boolean tape) {
        StringBuilder s = new StringBuilder(b.state());
        s.append("tape ").append(b.x.count(6));
        for (int what : new int[] {0, 1, 2, 10, 17, 20, 27, 30, 37}) {
            s.append(' ').append(b.x.tried(9, what));
        }
        if (tape) {
            // the tape's bytes, as the law that they are
            s.append(" law ").append(b.x.law(TAPE.length()));
            for (int what : new int[] {0, 1, 2, 10, 17, 20, 27, 30, 37}) {
                s.append(' ').append(b.x.tried(9, what));
            }
        }
        s.append(" undo ").append(b.x.undo()).append(' ').append(b.state());
        return s.toString();
    }

    private static void refused(String call, ToLongFunction<RoundSentences> asked, long want) {
        Bench b = land();
        Bench.due(call, asked.applyAsLong(b.x), want);
        Bench.due(call + " changes nothing", spent(b, true), spent(land(), true));
    }

    private static void texts() {
        for (int n : new int[] {0, -1, 61, 240, 241, Integer.MIN_VALUE, Integer.MAX_VALUE}) {
            refused("law " + n, x -> x.law(n), -1);
            refused("drum 0 " + n, x -> x.drum(0, n), -1);
            refused("orders " + n, x -> x.orders(n), -1);
        }
        refused("orders 121", x -> x.orders(121), -1);
        for (int k : new int[] {-1, 8, Integer.MIN_VALUE, Integer.MAX_VALUE}) {
            refused("drum " + k, x -> x.drum(k, 1), -1);
        }
    }

    private static void drums() {
        for (int k : NO_DRUMS) {
            refused("drumIs " + k, x -> x.drumIs(k, 0), -1);
            refused("frameIs " + k, x -> x.frameIs(k, 0, 0), -1);
            refused("story " + k, x -> x.story(k, 0), -1000);
            refused("painted " + k, x -> x.painted(k, 1), -1);
            refused("words " + k, x -> x.words(k, 1), -1);
            refused("crowd " + k, x -> x.crowd(k, 1, 0), -1);
            refused("unseen " + k, x -> x.unseen(k), -1);
            refused("marked " + k, x -> x.marked(k, 1, 0), -1);
        }
        for (int what : ANY) {
            refused("frameIs " + what, x -> x.frameIs(0, 0, what), -1);
            refused("painted by " + what, x -> x.painted(0, what), what == 2 ? -2 : what == 3 ? 0 : -1);
            refused("marked " + what, x -> x.marked(0, 1, what), -1);
        }
        refused("frameIs 3", x -> x.frameIs(0, 3, 0), -1);
        refused("frameIs -1", x -> x.frameIs(0, -1, 0), -1);
        refused("drumIs 8", x -> x.drumIs(0, 8), -1);
        refused("drumIs -1", x -> x.drumIs(0, -1), -1);
        refused("story -1", x -> x.story(0, -1), -1000);
        refused("story 7", x -> x.story(0, 7), -1000);
        refused("words 0", x -> x.words(0, 0), -1);
        refused("words 17", x -> x.words(0, 17), -1);
        refused("crowd -1", x -> x.crowd(0, -1, 0), -1);
        refused("crowd 65536", x -> x.crowd(0, 65536, 0), -1);
        refused("crowd what 3", x -> x.crowd(0, 1, 3), -1);
        refused("marked 0", x -> x.marked(0, 0, 0), -1);
        refused("marked 4", x -> x.marked(0, 4, 0), -1);
    }

    private static void ticks() {
        for (int n : NO_TICKS) {
            refused("ticks " + n, x -> x.ticks(n), -1);
            refused("tried " + n, x -> x.tried(n, 0), -1);
            refused("done " + n, x -> x.done(0, n), -1);
            refused("often " + n, x -> x.often(0, 0, n), -1);
            refused("seen " + n, x -> x.seen(0, n == 0 ? -2 : n), -1);
        }
        for (int what : new int[] {-1, 3, 9, 11, 18, 19, 29, 39, 40, Integer.MIN_VALUE, Integer.MAX_VALUE}) {
            refused("tried what " + what, x -> x.tried(9, what), -1);
        }
        for (int k : NO_DRUMS) {
            refused("seen " + k, x -> x.seen(k, 9), -1);
            refused("done " + k, x -> x.done(k, 9), -1);
            refused("often " + k, x -> x.often(k, 0, 9), -1);
        }
        refused("often -1", x -> x.often(0, -1, 9), -1);
        refused("often 17", x -> x.often(0, 17, 9), -1);
    }

    private static void pairs() {
        for (int k : NO_DRUMS) {
            refused("same 0 " + k, x -> x.same(0, k, false), -1);
            refused("same 0 " + k, x -> x.same(k, 0, true), -1);
            refused("edits 0 " + k, x -> x.edits(0, k), -1);
            refused("edits " + k, x -> x.edits(k, 0), -1);
            refused("common 0 " + k, x -> x.common(0, k), -1);
            refused("common " + k, x -> x.common(k, 0), -1);
            refused("twins 0 " + k, x -> x.twins(0, k, 0), -1);
            refused("twins " + k, x -> x.twins(k, 0, 0), -1);
        }
        refused("twins what -1", x -> x.twins(0, 3, -1), -1);
        refused("twins what 2", x -> x.twins(0, 3, 2), -1);
    }

    /** The tape stays where it could not be read. */
    private static void tapes() {
        for (int k : NO_DRUMS) {
            refused("both 0 " + k, x -> x.both(0, k), -1);
            refused("both " + k, x -> x.both(k, 0), -1);
            refused("paced " + k, x -> x.paced(k, 1, 0), -1);
        }
        for (int n : new int[] {0, -1, 17, Integer.MIN_VALUE, Integer.MAX_VALUE}) {
            refused("paced " + n, x -> x.paced(0, n, 0), -1);
            refused("leaving " + n, x -> x.leaving(n), -1);
        }
        refused("paced what -1", x -> x.paced(0, 1, -1), -1);
        refused("paced what 2", x -> x.paced(0, 1, 2), -1);
        refused("leaving 11", x -> x.leaving(11), -1);
        for (int n : new int[] {-1, 9, Integer.MIN_VALUE, Integer.MAX_VALUE}) {
            refused("check " + n, x -> x.check(n), -2);
        }
    }

    private static void rest() {
        for (int what : new int[] {-1, 1, 6, 8, 99, 101, Integer.MIN_VALUE, Integer.MAX_VALUE}) {
            refused("linked " + what, x -> x.linked(what), -1);
        }
        for (int n : new int[] {0, -1, 13, 17, Integer.MIN_VALUE, Integer.MAX_VALUE}) {
            refused("necklaces " + n, x -> x.necklaces(n, 2, false), -1);
            refused("necklaces of " + n, x -> x.necklaces(2, n == 13 ? 18 : n, true), -1);
        }
        for (int seed : new int[] {-1, 65536, Integer.MIN_VALUE, Integer.MAX_VALUE}) {
            refused("seed " + seed, x -> x.seed(seed) ? 1 : 0, 0);
        }
        for (int what : new int[] {-1, 8, Integer.MIN_VALUE, Integer.MAX_VALUE}) {
            refused("count " + what, x -> x.count(what), -1);
        }
    }

    private static void fullTape() {
        Bench b = land();
        Bench twin = land();
        for (int i = 0; i < 10; i++) {
            b.x.feed(1, 2, 3, 4, 5);
            twin.x.feed(1, 2, 3, 4, 5);
        }
        Bench.due("a full tape", b.x.count(6), 260);
        Bench.due("feed", b.x.feed(6, 7, 8, 9, 10), -1);
        Bench.due("law 241", b.x.law(241), -1);
        Bench.due("law 260", b.x.law(260), -1);
        Bench.due("changes nothing", spent(b, true), spent(twin, true));
    }

    private static void empties(String call, ToLongFunction<RoundSentences> asked, long want, int... bytes) {
        Bench b = land();
        b.x.check(0);
        b.bytes(bytes);
        Bench.due(call, asked.applyAsLong(b.x), want);
        Bench twin = land();
        twin.x.check(0);
        Bench.due(call + " changes the tape alone", spent(b, false), spent(twin, false));
    }

    /** What is no NONE empties the tape, also if it can't be answered. */
    private static void emptied() {
        empties("law", x -> x.law(1), -1000, 'y');
        empties("drum", x -> x.drum(0, 1), -1000, 'y');
        empties("orders", x -> x.orders(1), -1000, 'y');
        empties("both", x -> x.both(0, 7), -2, 0, 0, 16, 0);
        empties("both", x -> x.both(0, 7), -3, 16, 0, 0, 0);
        empties("paced", x -> x.paced(0, 1, 0), -2, 5);
        empties("paced", x -> x.paced(0, 1, 1), -3, 17);
        empties("paced", x -> x.paced(0, 1, 1), 2, 2);
        empties("leaving", x -> x.leaving(1), -2, 0, 51);
        empties("leaving", x -> x.leaving(1), 1, 0, 50);
        empties("check", x -> x.check(1), 0, 77);
        empties("check", x -> x.check(0), -1, 77);
    }

    /** What is only asked changes nothing, the tape neither. */
    private static void asked() {
        refused("tried", x -> x.tried(240, 1), 8);
        refused("seen", x -> x.seen(7, 240) >= 0 ? 1 : 0, 1);
        refused("done", x -> x.done(3, 240), 0);
        refused("often", x -> x.often(3, 1, 240), 0);
        refused("same", x -> x.same(0, 3, true), -2);
        refused("twins", x -> x.twins(0, 7, 0), -2);
        refused("edits", x -> x.edits(0, 7), 13);
        refused("common", x -> x.common(0, 7), 3);
        for (int what = 0; what <= 6; what++) {
            int of = what;
            refused("story " + what, x -> x.story(7, of) == -1000 ? 0 : 1, 1);
        }
        refused("painted", x -> x.painted(7, 5), -2);
        refused("words", x -> x.words(7, 16), 16);
        refused("crowd", x -> x.crowd(7, 65535, 2), 16);
        refused("linked", x -> x.linked(100), 1);
        refused("unseen", x -> x.unseen(7), 2);
        refused("necklaces", x -> x.necklaces(12, 1, true), 1);
        refused("marked", x -> x.marked(7, 16, 1), 1);
        refused("count", x -> x.count(6), 60);
    }
}
