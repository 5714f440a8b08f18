/** Promises 4, 8 and 9: drum, drumIs, frameIs. */
public final class DrumTest {
    public static void main(String[] args) {
        rows();
        faults();
        manyFrames();
        limits();
        toldAnew();
        asked();
        Bench.end();
    }

    private static void dueRow(String text, String row) {
        Bench b = new Bench();
        b.dueDrum(3, text, row.length());
        Bench.due(text, b.row(3), row);
    }

    private static void rows() {
        dueRow("a", "a");
        dueRow("abcdefghijklmnop", "abcdefghijklmnop");
        dueRow("-", "-");
        dueRow("3a2-", "aaa--");
        dueRow("9p", "ppppppppp");
        dueRow("(ab)", "ab");
        dueRow("2(ab)c", "ababc");
        dueRow("2(a2(b-)c)", "ab-b-cab-b-c");
        dueRow("(2(3a)b)(c)", "aaaaaabc");
        dueRow("(a)((b)(c))", "abc");
        dueRow("2(2(2a))", "aaaaaaaa");
    }

    private static void faults() {
        Bench b = new Bench();
        b.dueDrum(0, "ab", 2);
        b.dueDrum(0, "q", -1000);
        b.dueDrum(0, "A", -1000);
        b.dueDrum(0, " ", -1000);
        b.dueDrum(0, "\u00e1", -1000);
        b.dueDrum(0, "\u0000", -1000);
        b.dueDrum(0, "0a", -1000);
        b.dueDrum(0, "1a", -1000);
        b.dueDrum(0, "a1a", -1001);
        b.dueDrum(0, "22a", -1001);
        b.dueDrum(0, "2", -1001);
        b.dueDrum(0, "ab3", -1003);
        b.dueDrum(0, "(", -1001);
        b.dueDrum(0, "()", -1001);
        b.dueDrum(0, "(a", -1002);
        b.dueDrum(0, "((a)", -1004);
        b.dueDrum(0, "a)", -1001);
        b.dueDrum(0, "(a))", -1003);
        b.dueDrum(0, "2)", -1001);
        b.dueDrum(0, "(2)", -1002);
        b.dueDrum(0, "(((a)))", -5002);
        b.dueDrum(0, "((2(a)))", -5003);
        b.dueDrum(0, "(a)((b(", -5006);
        b.dueDrum(0, "((((", -5002);
        b.dueDrum(0, "(x((", -1001);
        Bench.due("the one before stays", b.row(0), "ab");
        Bench.due("told ones", b.x.count(1), 1);
    }

    /** FAULT 6 at the first byte of what makes them more than 16, of an inner one first. */
    private static void manyFrames() {
        Bench b = new Bench();
        b.dueDrum(0, "9a7b", 16);
        b.dueDrum(0, "9a8b", -6002);
        b.dueDrum(0, "9a7bc", -6004);
        b.dueDrum(0, "9a7b-", -6004);
        b.dueDrum(0, "abcdefghijklmnopa", -6016);
        b.dueDrum(0, "2(8a)", 16);
        b.dueDrum(0, "2(9a)", -6000);
        b.dueDrum(0, "c2(8a)", -6001);
        b.dueDrum(0, "8a2(4b)c", -6007);
        b.dueDrum(0, "(9a9b)", -6003);
        b.dueDrum(0, "3(9a9b)", -6004);
        b.dueDrum(0, "9a(8b)", -6003);
        b.dueDrum(0, "(9a)(8b)", -6005);
        b.dueDrum(0, "2(3(3a))", -6000);
        b.dueDrum(0, "2(6(3a))", -6002);
        b.dueDrum(0, "9(9(9a))", -6002);
        // What stands ahead of where it is asked comes first.
        b.dueDrum(0, "5(4ax)", -1004);
        b.dueDrum(0, "5(4a", -1004);
        b.dueDrum(0, "5(4a)x", -6000);
        b.dueDrum(0, "9a8", -1003);
        b.dueDrum(0, "9a8x", -1003);
    }

    private static void limits() {
        Bench b = new Bench();
        String sixty = "((a))".repeat(12);
        b.dueDrum(7, sixty, 12);
        b.dueDrum(7, sixty + "b", -1);
        Bench.due("tape stays", b.x.count(6), 80);
        Bench.due("no such drum", b.x.drum(8, 5), -1);
        Bench.due("no such drum", b.x.drum(-1, 5), -1);
        Bench.due("first five of it", b.x.drum(7, 5), 1);
    }

    private static void toldAnew() {
        Bench b = new Bench();
        b.drum(2, "abc");
        b.orders("2+9;2@1");
        b.law("v2(1=1);a7(1=1);x(t=1)");
        b.x.ticks(2);
        int[] due = {3, 2, 8, 1, 2, 1, 2, 0};
        for (int what = 0; what < 8; what++) {
            Bench.due("drumIs " + what, b.x.drumIs(2, what), due[what]);
        }
        Bench.due("wear", b.x.frameIs(2, 0, 1), 7);
        Bench.due("wear", b.x.frameIs(2, 1, 1), 0);
        Bench.due("wear", b.x.frameIs(2, 2, 1), 7);
        b.dueDrum(2, "ba-d", 4);
        int[] fresh = {4, 0, 0, 0, 0, 0, 1, 1};
        for (int what = 0; what < 8; what++) {
            Bench.due("anew drumIs " + what, b.x.drumIs(2, what), fresh[what]);
        }
        for (int i = 0; i < 4; i++) {
            Bench.due("anew wear", b.x.frameIs(2, i, 1), 0);
        }
        Bench.due("the tick stays", b.x.count(0), 2);
    }

    private static void asked() {
        Bench b = new Bench();
        b.drum(0, "a-p");
        Bench.due("frame", b.x.frameIs(0, 0, 0), 0);
        Bench.due("gap", b.x.frameIs(0, 1, 0), 16);
        Bench.due("frame", b.x.frameIs(0, 2, 0), 15);
        int[] none = {
            b.x.frameIs(0, 3, 0), b.x.frameIs(0, -1, 0), b.x.frameIs(0, 0, 2), b.x.frameIs(0, 0, -1),
            b.x.frameIs(1, 0, 0), b.x.frameIs(8, 0, 0), b.x.frameIs(-1, 0, 0),
            b.x.drumIs(0, 8), b.x.drumIs(0, -1), b.x.drumIs(1, 0), b.x.drumIs(8, 0), b.x.drumIs(-1, 0)
        };
        for (int i = 0; i < none.length; i++) {
            Bench.due("none " + i, none[i], -1);
        }
        // A FRAME that is FADED keeps its PICTURE, but shows as a GAP.
        b.orders("0+1");
        b.law("a99(1=1)");
        b.x.ticks(1);
        Bench.due("shows", b.x.drumIs(0, 6), 16);
        Bench.due("gaps", b.x.drumIs(0, 7), 2);
        Bench.due("picture", b.x.frameIs(0, 0, 0), 0);
        Bench.due("wear", b.x.frameIs(0, 0, 1), 99);
        b.x.ticks(1);
        Bench.due("wear is 99 at most", b.x.frameIs(0, 0, 1), 99);
        b.orders("0@2");
        b.law("a98(1=1)");
        b.x.ticks(1);
        Bench.due("98 shows", b.x.drumIs(0, 6), 15);
        b.x.ticks(1);
        Bench.due("99 does not", b.x.drumIs(0, 6), 16);
        b.orders("0#2=c");
        Bench.due("painted over", b.x.drumIs(0, 6), 2);
        Bench.due("wear is 0", b.x.frameIs(0, 2, 1), 0);
    }
}
