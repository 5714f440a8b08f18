/** Promises 1 and 2: a new object; feed. */
public final class TapeTest {
    public static void main(String[] args) {
        newObject();
        feed();
        whoEmpties();
        Bench.end();
    }

    private static void newObject() {
        Bench b = new Bench();
        int[] due = {0, 0, 0, 0, 0, 0, 0, 1};
        for (int what = 0; what < due.length; what++) {
            Bench.due("new count " + what, b.x.count(what), due[what]);
        }
        for (int k = -1; k <= 8; k++) {
            Bench.due("new drumIs", b.x.drumIs(k, 0), -1);
            Bench.due("new frameIs", b.x.frameIs(k, 0, 0), -1);
            Bench.due("new seen", b.x.seen(k, 0), -1);
            Bench.due("new done", b.x.done(k, 1), -1);
            Bench.due("new often", b.x.often(k, 0, 1), -1);
            Bench.due("new same", b.x.same(k, k, false), -1);
            Bench.due("new story", b.x.story(k, 0), -1000);
            Bench.due("new painted", b.x.painted(k, 1), -1);
            Bench.due("new edits", b.x.edits(k, k), -1);
            Bench.due("new common", b.x.common(k, k), -1);
            Bench.due("new twins", b.x.twins(k, k, 0), -1);
            Bench.due("new both", b.both(k, k, 0, 0, 0, 0), -1);
            Bench.due("new paced", b.x.paced(k, 1, 0), -1);
            Bench.due("new words", b.x.words(k, 1), -1);
            Bench.due("new crowd", b.x.crowd(k, 1, 0), -1);
            Bench.due("new linked", b.x.linked(k), -1);
            Bench.due("new unseen", b.x.unseen(k), -1);
            Bench.due("new marked", b.x.marked(k, 1, 0), -1);
        }
        Bench.due("new linked 100", b.x.linked(100), 0);
        Bench.due("new undo", b.x.undo(), false);
        Bench.due("NONE", RoundSentences.NONE, -1);
    }

    private static void feed() {
        Bench b = new Bench();
        for (int i = 1; i <= 13; i++) {
            Bench.due("feed", b.x.feed(-1, 0, 1, Integer.MIN_VALUE, Integer.MAX_VALUE), 20 * i);
        }
        Bench.due("feed above 260", b.x.feed(0, 0, 0, 0, 0), -1);
        Bench.due("the tape stays", b.x.count(6), 260);

        Bench order = new Bench();
        order.x.feed(0x61626364, 0x65666768, 0x696a6b6c, 0x6d6e6f70, 0x61626364);
        Bench.due("sixteen frames", order.x.drum(0, 16), 16);
        for (int i = 0; i < 16; i++) {
            Bench.due("the highest byte first", order.x.frameIs(0, i, 0), i);
        }
        Bench more = new Bench();
        more.x.feed(0x61616161, 0x61616161, 0x61616161, 0x61616161, 0x29292929);
        more.x.feed(0x62000000, 0, 0, 0, 0);
        Bench.due("bytes come behind", more.x.drum(0, 21), -1016);
    }

    /** A refused call leaves the tape; every other one that reads it empties it whole. */
    private static void whoEmpties() {
        Bench b = new Bench();
        b.drum(0, "ab");
        b.text("abcdefghijklmnopqrstuvwxyz");
        int[] refused = {
            b.x.law(0), b.x.law(41), b.x.law(241), b.x.law(-1),
            b.x.drum(0, 0), b.x.drum(0, 41), b.x.drum(0, 61), b.x.drum(-1, 1), b.x.drum(8, 1),
            b.x.orders(0), b.x.orders(41), b.x.orders(121), b.x.orders(Integer.MIN_VALUE),
            b.x.both(0, 1), b.x.both(1, 0), b.x.both(-1, 0), b.x.both(0, 8),
            b.x.paced(0, 0, 0), b.x.paced(0, 17, 0), b.x.paced(0, 1, 2), b.x.paced(0, 1, -1), b.x.paced(1, 1, 0),
            b.x.leaving(0), b.x.leaving(11), b.x.leaving(-1)
        };
        for (int i = 0; i < refused.length; i++) {
            Bench.due("refused " + i, refused[i], -1);
        }
        Bench.due("check of -1", b.x.check(-1), -2);
        Bench.due("check of 9", b.x.check(9), -2);
        Bench.due("tape stays", b.x.count(6), 40);
        Bench.due("first bytes", b.x.drum(1, 3), 3);
        Bench.due("empty whole", b.x.count(6), 0);
        Bench.due("drum of an empty tape", b.x.drum(1, 1), -1);
        Bench.due("law of an empty tape", b.x.law(1), -1);
        Bench.due("orders of an empty tape", b.x.orders(1), -1);
        Bench.due("both of an empty tape", b.x.both(0, 1), -1);
        Bench.due("paced of an empty tape", b.x.paced(0, 1, 0), -1);
        Bench.due("leaving of an empty tape", b.x.leaving(1), -1);
        Bench.due("check of an empty tape", b.x.check(1), -2);
        Bench.due("check of none", b.x.check(0), -1);
        b.text("x");
        Bench.due("check of none empties", b.x.check(0), -1);
        Bench.due("empty by check", b.x.count(6), 0);
        Bench.due("fault", b.drum(1, "?"), -1000);
        Bench.due("empty by a drum's fault", b.x.count(6), 0);
        Bench.due("fault", b.orders("?"), -1000);
        Bench.due("empty by a fault of orders", b.x.count(6), 0);
        Bench.due("fault", b.law("?"), -1000);
        Bench.due("empty by a law's fault", b.x.count(6), 0);
        Bench.due("-3", b.both(0, 1, 16, 0, 0, 0), -3);
        Bench.due("empty by both", b.x.count(6), 0);
        Bench.due("-3", b.paced(0, 0, 17), -3);
        Bench.due("empty by paced", b.x.count(6), 0);
        Bench.due("-2", b.leaving(1, 51), -2);
        Bench.due("empty by leaving", b.x.count(6), 0);
    }
}
