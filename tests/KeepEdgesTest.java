/** The boundary cases of promises 1, 2, 8, 9 and 29 to 32, sentence by sentence. */
public final class KeepEdgesTest {
    private static final int[] NO_DRUMS = {-1, 1, 6, 8, Integer.MIN_VALUE, Integer.MAX_VALUE};

    public static void main(String[] args) {
        newObject();
        objectsApart();
        highestFirst();
        behindTheTape();
        fullTape();
        drumIs();
        drumIsNone();
        frameIs();
        frameIsNone();
        keep();
        keptWhole();
        notKept();
        keptLast();
        undoNone();
        keptApart();
        check();
        checkFirst();
        checkNone();
        checkRefused();
        countEach();
        countNone();
        Bench.end();
    }

    private static void newObject() {
        Bench.says("`RoundSentences()`: No DRUMS, LAW; THE SEED 1.");
        Bench b = new Bench();
        int[] due = {0, 0, 0, 0, 0, 0, 0, 1};
        for (int what = 0; what < due.length; what++) {
            Bench.due("count " + what, b.x.count(what), due[what]);
        }
        for (int k = 0; k < 8; k++) {
            Bench.due("not told", b.x.drumIs(k, 0), -1);
        }
        Bench.due("none was kept", b.x.undo(), false);
    }

    private static void objectsApart() {
        Bench.says("All memory is the land's own.");
        Bench first = new Bench();
        Bench second = new Bench();
        first.drum(0, "abc");
        first.orders("0+5;0@1");
        first.law("v1(1=1)");
        first.x.seed(7);
        first.text("abc");
        Bench.due("nothing is told", second.x.count(1), 0);
        Bench.due("no law", second.x.count(5), 0);
        Bench.due("no tape", second.x.count(6), 0);
        Bench.due("its own X", second.x.count(7), 1);
        first.x.keep();
        Bench.due("nothing was kept", second.x.undo(), false);
        second.drum(0, "p");
        Bench.due("the first one's", first.row(0), "abc");
    }

    private static void highestFirst() {
        Bench.says("Twenty bytes come behind the tape, the highest of each int first");
        Bench b = new Bench();
        b.x.feed(0x61626364, 0x65666768, 0x696a6b6c, 0x6d6e6f70, 0x71717171);
        Bench.due("sixteen", b.x.drum(0, 16), 16);
        Bench.due("row", b.row(0), "abcdefghijklmnop");
        // bytes above 127 are bytes, too
        b.x.feed(0x00ffffff, -1, -1, -1, -1);
        Bench.due("255", b.x.check(8), -1);
        b.x.feed(0x00ffffff, -1, 0xfeffffff, 0, 0);
        Bench.due("255", b.x.check(8), -1);
        b.x.feed(0x00ffff7f, -1, 0, 0, 0);
        Bench.due("127", b.x.check(8), 3);
        b.x.feed(0x00ffffff, 0xffffff80, 0, 0, 0);
        Bench.due("128", b.x.check(8), 7);
        b.x.feed(Integer.MIN_VALUE, 0, 0, 0, 0);
        Bench.due("128 first", b.x.check(1), 0);
        b.x.feed(Integer.MAX_VALUE, 0, 0, 0, 0);
        Bench.due("127 first", b.x.check(1), 0);
        b.x.feed(0x000f0010, 0, 0, 0, 0);
        Bench.due("15, 16", b.x.both(0, 0), -2);
        b.x.feed(0x000f0011, 0, 0, 0, 0);
        Bench.due("15, 17", b.x.both(0, 0), -3);
    }

    private static void behindTheTape() {
        Bench.says("Twenty bytes come behind the tape");
        Bench b = new Bench();
        b.x.feed(0x28286129, 0x29282862, 0x29292828, 0x63292928, 0x28642929);
        b.x.feed(0x28286529, 0x29282866, 0x29292828, 0x67292928, 0x28682929);
        b.x.feed(0x28286929, 0x2928286a, 0x29292828, 0x6b292928, 0x286c2929);
        Bench.due("sixty", b.x.drum(0, 60), 12);
        Bench.due("row", b.row(0), "abcdefghijkl");
        // on every tape length the byte behind it is the first that was fed
        for (int feeds = 1; feeds <= 11; feeds++) {
            Bench l = new Bench();
            for (int i = 0; i < feeds; i++) {
                l.text(i == 0 ? "v1+1+1+1+1+1+1+1+1+1" : "+1+1+1+1+1+1+1+1+1+1");
            }
            l.text("?");
            Bench.due("place", l.x.law(20 * feeds + 1), -1000 - 20 * feeds);
        }
    }

    private static void fullTape() {
        Bench.says("how many it has; NONE if that would be more than 260");
        Bench b = new Bench();
        for (int feeds = 1; feeds <= 13; feeds++) {
            Bench.due("feed " + feeds, b.x.feed(0x61616161, 0x61616161, 0x61616161, 0x61616161, 0x61616161), 20 * feeds);
            Bench.due("it has", b.x.count(6), 20 * feeds);
        }
        Bench.due("280", b.x.feed(0x62626262, 0x62626262, 0x62626262, 0x62626262, 0x62626262), -1);
        Bench.due("still 260", b.x.count(6), 260);
        Bench.due("again", b.x.feed(0, 0, 0, 0, 0), -1);
        Bench.due("nothing was fed", b.x.drum(0, 16), 16);
        Bench.due("row", b.row(0), "aaaaaaaaaaaaaaaa");
        Bench.due("room again", b.x.feed(0x62626262, 0, 0, 0, 0), 20);
        Bench.due("what is fed now", b.x.drum(0, 4), 4);
        Bench.due("row", b.row(0), "bbbb");
    }

    private static void drumIs() {
        Bench.says("what 0 FRAMES, 1 POSITION, 2 TURNS LEFT, 3 WAY GONE, 4 PACE, 5 PARDONED (1, 0), 6 what shows at "
                + "the slit (a GAP: 16), 7 how many FRAMES show as GAPS");
        Bench b = Bench.of("a");
        b.dueDrumIs(0, 1, 0, 0, 0, 0, 0, 0, 0);
        b.drum(7, "-bcdefghijklmnop");
        b.orders("7+999;7@15;7!");
        b.dueDrumIs(7, 16, 15, 999, 0, 0, 1, 15, 1);
        b.orders("7@0;7?");
        b.dueDrumIs(7, 16, 0, 999, 0, 0, 0, 16, 1);
        b.law("v15(1=1);a99(1=1)");
        b.x.ticks(1);
        b.dueDrumIs(7, 16, 15, 999, 15, 15, 0, 16, 2);
        Bench gaps = Bench.of("9-7-");
        gaps.dueDrumIs(0, 16, 0, 0, 0, 0, 0, 16, 16);
    }

    private static void drumIsNone() {
        Bench.says("7 how many FRAMES show as GAPS; NONE for others");
        Bench b = Bench.of("a");
        for (int what : new int[] {-1, 8, 100, Integer.MIN_VALUE, Integer.MAX_VALUE}) {
            Bench.due("no such what: " + what, b.x.drumIs(0, what), -1);
        }
        for (int what = 0; what <= 7; what++) {
            for (int k : NO_DRUMS) {
                Bench.due("no such drum: " + k, b.x.drumIs(k, what), -1);
            }
        }
    }

    private static void frameIs() {
        Bench.says("Of FRAME i of a told DRUM, what 0 the PICTURE (a GAP: 16), 1 WEAR");
        Bench b = Bench.of("-");
        b.drum(7, "abcdefghijklmno-");
        Bench.due("a gap", b.x.frameIs(0, 0, 0), 16);
        for (int i = 0; i < 15; i++) {
            Bench.due("picture", b.x.frameIs(7, i, 0), i);
            Bench.due("wear", b.x.frameIs(7, i, 1), 0);
        }
        Bench.due("the last", b.x.frameIs(7, 15, 0), 16);
        b.orders("7+1;7@15");
        b.law("a99(1=1)");
        b.x.ticks(1);
        Bench.due("wear of the last", b.x.frameIs(7, 15, 1), 99);
        b.orders("7@0");
        b.x.ticks(1);
        Bench.due("wear of the first", b.x.frameIs(7, 0, 1), 99);
        Bench.due("its picture", b.x.frameIs(7, 0, 0), 0);
    }

    private static void frameIsNone() {
        Bench.says("what 0 the PICTURE (a GAP: 16), 1 WEAR; NONE: no such ones.");
        Bench b = Bench.of("abc");
        for (int what = 0; what <= 1; what++) {
            for (int i : new int[] {-1, 3, 4, 15, 16, Integer.MIN_VALUE, Integer.MAX_VALUE}) {
                Bench.due("no such frame: " + i, b.x.frameIs(0, i, what), -1);
            }
            for (int k : NO_DRUMS) {
                Bench.due("no such drum: " + k, b.x.frameIs(k, 0, what), -1);
            }
        }
        for (int what : new int[] {-1, 2, Integer.MIN_VALUE, Integer.MAX_VALUE}) {
            Bench.due("no such what: " + what, b.x.frameIs(0, 0, what), -1);
        }
        Bench full = Bench.of("abcdefghijklmnop");
        Bench.due("the last", full.x.frameIs(0, 15, 0), 15);
        Bench.due("behind the last", full.x.frameIs(0, 16, 0), -1);
        // what was there before is there no more
        full.drum(0, "a");
        Bench.due("behind the only one", full.x.frameIs(0, 1, 0), -1);
        Bench.due("behind the only one", full.x.frameIs(0, 1, 1), -1);
    }

    private static void keep() {
        Bench.says("KEPT: THE TICK.");
        Bench b = new Bench();
        Bench.due("at first", b.x.keep(), 0);
        b.x.ticks(240);
        Bench.due("then", b.x.keep(), 240);
        for (int i = 0; i < 41; i++) {
            b.x.ticks(240);
        }
        Bench.due("the last", b.x.keep(), 9999);
    }

    private static void keptWhole() {
        Bench.says("KEPT: DRUMS (FRAMES, too), THE TICK, X");
        Bench b = Bench.of("abc", "-d");
        b.orders("0+9;0@1;1+9;1!;0#2=e");
        b.law("v2(1=1);a60(1=1)");
        b.x.ticks(5);
        String kept = b.state();
        b.x.keep();
        b.drum(1, "abcdefghijklmnop");
        b.drum(7, "g");
        b.orders("0#0=p;0#1=-;0-9;0@0;0!;7+9");
        b.x.ticks(7);
        b.x.seed(999);
        Bench.due("undo", b.x.undo(), true);
        Bench.due("as it was", b.state(), kept);
        Bench.due("told since", b.x.drumIs(7, 0), -1);
        // what is told anew behind it begins anew
        b.drum(7, "gg");
        b.dueDrumIs(7, 2, 0, 0, 0, 0, 0, 6, 0);
    }

    private static void notKept() {
        Bench.says("KEPT: DRUMS (FRAMES, too), THE TICK, X; UNDONE: as they were KEPT last");
        Bench b = Bench.of("abc");
        b.orders("0+9");
        b.law("v1(1=1)");
        b.x.keep();
        b.law("v2(1=1);l(1=1)");
        b.text("tape");
        Bench.due("undo", b.x.undo(), true);
        Bench.due("the law stays", b.x.count(5), 2);
        Bench.due("the law stays", b.x.tried(1, 10), 1);
        Bench.due("the tape stays", b.x.count(6), 20);
    }

    private static void keptLast() {
        Bench.says("UNDONE: as they were KEPT last");
        Bench b = Bench.of("abc");
        b.orders("0+9");
        b.law("v1(1=1)");
        b.x.keep();
        b.x.ticks(1);
        b.x.keep();
        b.x.ticks(1);
        Bench.due("undo", b.x.undo(), true);
        Bench.due("the last", b.x.count(0), 1);
        b.x.ticks(4);
        Bench.due("undo again", b.x.undo(), true);
        Bench.due("the same", b.x.count(0), 1);
        Bench.due("undo at once", b.x.undo(), true);
        b.dueDrumIs(0, 3, 1, 9, 1, 1, 0, 1, 0);
        Bench.due("X", b.x.count(7), 39022);
    }

    private static void undoNone() {
        Bench.says("UNDONE: true; false: none was KEPT.");
        Bench b = Bench.of("abc");
        b.orders("0+9;0@2");
        b.law("v1(1=1)");
        b.x.ticks(2);
        b.text("tape");
        String before = b.state();
        Bench.due("undo", b.x.undo(), false);
        Bench.due("nothing is changed", b.state(), before);
        Bench.due("the tape stays", b.x.count(6), 20);
        Bench empty = new Bench();
        empty.x.keep();
        empty.drum(0, "a");
        Bench.due("a land without drums can be kept", empty.x.undo(), true);
        Bench.due("none is told", empty.x.count(1), 0);
    }

    private static void keptApart() {
        Bench.says("UNDONE: as they were KEPT last");
        Bench b = Bench.of("abc");
        b.orders("0+9");
        b.x.keep();
        b.orders("0#0=p");
        b.x.undo();
        b.orders("0#1=p");
        Bench.due("row", b.row(0), "apc");
        b.x.undo();
        Bench.due("row", b.row(0), "abc");
        // what is tried changes nothing that was kept
        b.law("v1(1=1);a99(1=1)");
        b.x.tried(3, 0);
        b.x.seen(0, 240);
        b.x.undo();
        b.dueDrumIs(0, 3, 0, 9, 0, 0, 0, 0, 0);
        Bench.due("wear", b.x.frameIs(0, 1, 1), 0);
    }

    /** DRUM 0 at 2, DRUM 2 at 0, DRUM 7 at 15; the others are not told. */
    private static Bench positions() {
        Bench b = Bench.of("abc");
        b.drum(2, "a");
        b.drum(7, "abcdefghijklmnop");
        b.orders("0@2;7@15");
        return b;
    }

    private static void check() {
        Bench.says("CHECK by the first n bytes of the tape (0 to 8; empty then; of DRUMS that are not told 255): "
                + "NONE: right");
        int[] right = {2, 255, 0, 255, 255, 255, 255, 15};
        for (int n = 0; n <= 8; n++) {
            Bench b = positions();
            b.bytes(right);
            Bench.due("right ones, " + n, b.x.check(n), -1);
            Bench.due("the tape is empty", b.x.count(6), 0);
        }
        Bench none = new Bench();
        Bench.due("none is told", none.check(255, 255, 255, 255, 255, 255, 255, 255), -1);
    }

    private static void checkFirst() {
        Bench.says("NONE: right; else the first that is not so");
        for (int wrong = 0; wrong < 8; wrong++) {
            for (int also = wrong; also < 8; also++) {
                int[] bytes = {2, 255, 0, 255, 255, 255, 255, 15};
                bytes[wrong] = (bytes[wrong] + 1) % 256;
                bytes[also] = also == wrong ? bytes[wrong] : 9;
                Bench b = positions();
                b.bytes(bytes);
                Bench.due("the first is " + wrong, b.x.check(8), wrong);
                Bench.due("the tape is empty", b.x.count(6), 0);
                b.bytes(bytes);
                Bench.due("all ahead of it are right", b.x.check(wrong), -1);
            }
        }
    }

    private static void checkNone() {
        Bench.says("of DRUMS that are not told 255");
        Bench b = positions();
        Bench.due("a told one is not 255", b.check(255), 0);
        Bench.due("one that is not told is not 0", b.check(2, 0), 1);
        Bench.due("nor 254", b.check(2, 254), 1);
    }

    private static void checkRefused() {
        Bench.says("-2: no such n, it has not so many (the tape stays)");
        Bench b = positions();
        Bench.due("none of an empty tape", b.x.check(0), -1);
        for (int n = 1; n <= 8; n++) {
            Bench.due("an empty tape", b.x.check(n), -2);
        }
        b.bytes(2, 255);
        for (int n : new int[] {-1, 9, 20, 21, Integer.MIN_VALUE, Integer.MAX_VALUE}) {
            Bench.due("no such n: " + n, b.x.check(n), -2);
        }
        Bench.due("the tape stays", b.x.count(6), 20);
        Bench.due("two of it", b.x.check(2), -1);
        Bench.due("the tape is empty", b.x.count(6), 0);
    }

    private static void countEach() {
        Bench.says("0 THE TICK, 1 told DRUMS (bits), 2 RUNNING ones (bits), 3 PARDONED ones (bits), 4 TURNS LEFT of "
                + "all, 5 RULES, 6 bytes of the tape, 7 X");
        Bench b = Bench.of("a", "a", "a", "a", "a", "a", "a", "a");
        b.orders("0+999;1+999;2+999;3+999;4+999;5+999;6+999;7+999");
        Bench.due("told", b.x.count(1), 255);
        Bench.due("running", b.x.count(2), 255);
        Bench.due("pardoned", b.x.count(3), 0);
        Bench.due("turns of all", b.x.count(4), 8 * 999);
        b.orders("0!;1!;2!;3!;4!;5!;6!;7!");
        Bench.due("running", b.x.count(2), 0);
        Bench.due("pardoned", b.x.count(3), 255);
        Bench.due("turns of all, pardoned ones, too", b.x.count(4), 8 * 999);
        b.law("x(1=1);".repeat(15) + "x(1=1)");
        Bench.due("rules", b.x.count(5), 16);
        Bench.due("the tape", b.x.count(6), 0);
        Bench.due("X", b.x.count(7), 1);
    }

    private static void countNone() {
        Bench.says("6 bytes of the tape, 7 X. NONE for others.");
        Bench b = Bench.of("a");
        for (int what : new int[] {-1, 8, 9, 100, Integer.MIN_VALUE, Integer.MAX_VALUE}) {
            Bench.due("no such what: " + what, b.x.count(what), -1);
        }
    }
}
