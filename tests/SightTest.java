/** Promises 19 to 27: both, paced, words, crowd, linked, unseen, necklaces, leaving, marked. */
public final class SightTest {
    public static void main(String[] args) {
        both();
        paced();
        words();
        crowd();
        linked();
        unseen();
        necklaces();
        leaving();
        marked();
        refused();
        Bench.end();
    }

    private static Bench of(String... drums) {
        Bench b = new Bench();
        for (int k = 0; k < drums.length; k++) {
            b.dueDrum(k, drums[k], drums[k].length());
        }
        return b;
    }

    private static void both() {
        Bench b = of("abc", "ab-d", "abcdefghijklmnop", "abcdefghijklmno");
        Bench.due("now", b.both(0, 1, 1, 1, 0, 0), 0);
        Bench.due("both", b.both(0, 1, 1, 1, 2, 0), 8);
        Bench.due("both", b.both(0, 1, 1, 1, 0, 3), 3);
        Bench.due("a gap", b.both(0, 1, 2, 1, 1, 16), 2);
        Bench.due("a gap of the first", b.both(1, 0, 1, 2, 16, 1), 2);
        Bench.due("never", b.both(0, 1, 0, 1, 1, 0), -2);
        Bench.due("never", b.both(0, 1, 1, 1, 3, 0), -2);
        Bench.due("never", b.both(0, 1, 3, 1, 1, 0), -2);
        Bench.due("the last", b.both(2, 3, 1, 1, 15, 14), 239);
        Bench.due("backward in effect", b.both(2, 3, 15, 14, 1, 1), 239);
        Bench.due("one with itself", b.both(0, 0, 1, 2, 1, 2), 1);
        b.orders("0@2;1@3");
        Bench.due("from where they are", b.both(0, 1, 1, 1, 0, 0), 1);
        Bench.due("from where they are", b.both(0, 1, 1, 1, 2, 3), 0);
        Bench.due("pace", b.both(0, 1, 15, 15, 2, 3), 0);
        Bench.due("pace above 15", b.both(0, 1, 16, 0, 0, 0), -3);
        Bench.due("pace above 15", b.both(0, 1, 0, 255, 0, 0), -3);
        Bench.due("picture above 16", b.both(0, 1, 0, 0, 17, 0), -3);
        Bench.due("picture above 16", b.both(0, 1, 0, 0, 0, 255), -3);
        Bench.due("empty then", b.x.count(6), 0);
        Bench.due("nothing on the tape", b.x.both(0, 1), -1);
        b.orders("0+9;0@0");
        b.law("a99(1=1)");
        b.x.ticks(1);
        Bench.due("wear aside", b.both(0, 1, 0, 0, 0, 3), 0);
        Bench.due("no such drum", b.both(4, 0, 0, 0, 0, 0), -1);
        Bench.due("tape stays", b.x.count(6), 20);
    }

    private static void duePaced(Bench b, int pace, int from, int... word) {
        Bench.due("pace", b.paced(0, 0, word), pace);
        Bench.due("from", b.paced(0, 1, word), from);
    }

    private static void paced() {
        Bench b = of("abcab");
        duePaced(b, 0, 0, 0);
        duePaced(b, 0, 1, 1);
        duePaced(b, 0, 2, 2);
        duePaced(b, 0, 1, 1, 1, 1, 1, 1, 1, 1, 1, 1, 1, 1, 1, 1, 1, 1, 1);
        duePaced(b, 1, 0, 0, 1);
        duePaced(b, 1, 4, 1, 0);
        duePaced(b, 2, 2, 2, 1);
        duePaced(b, 1, 2, 2, 0, 1);
        duePaced(b, 3, 0, 0, 0, 1);
        duePaced(b, 4, 2, 2, 1, 0, 1, 0);
        duePaced(b, 1, 3, 0, 1, 0, 1, 2, 0, 1, 0, 1, 2, 0, 1, 0, 1, 2, 0);
        duePaced(b, -2, -2, 3);
        duePaced(b, -2, -2, 2, 2, 1);
        duePaced(b, -2, -2, 16);
        duePaced(b, -3, -3, 0, 17);
        duePaced(b, -3, -3, 255, 0);
        b.orders("0#2=-;0@3");
        duePaced(b, 1, 2, 16, 0);
        Bench.due("one word alone is emptied", b.x.count(6), 0);
        b.bytes(0);
        Bench.due("16 of 20", b.x.paced(0, 16, 0), -3);
        Bench.due("none left", b.x.paced(0, 1, 0), -1);
        b.bytes(0);
        Bench.due("17", b.x.paced(0, 17, 0), -1);
        Bench.due("0", b.x.paced(0, 0, 0), -1);
        Bench.due("what", b.x.paced(0, 1, 2), -1);
        Bench.due("what", b.x.paced(0, 1, -1), -1);
        Bench.due("drum", b.x.paced(1, 1, 0), -1);
        Bench.due("tape stays", b.x.count(6), 20);
    }

    private static void words() {
        Bench b = of("abab", "aabaabaa", "a", "--a-", "abcdefghijklmnop");
        for (int length = 1; length <= 16; length++) {
            Bench.due("words", b.x.words(0, length), 2);
            Bench.due("words", b.x.words(2, length), 1);
            Bench.due("words", b.x.words(4, length), 16);
        }
        Bench.due("words", b.x.words(1, 1), 2);
        Bench.due("words", b.x.words(1, 2), 3);
        Bench.due("words", b.x.words(1, 3), 4);
        Bench.due("words", b.x.words(1, 16), 8);
        Bench.due("words with gaps", b.x.words(3, 1), 2);
        Bench.due("words with gaps", b.x.words(3, 2), 3);
        Bench.due("words with gaps", b.x.words(3, 3), 4);
        Bench.due("no such length", b.x.words(0, 0), -1);
        Bench.due("no such length", b.x.words(0, 17), -1);
    }

    private static void crowd() {
        Bench b = of("aab-c");
        Bench.due("one eye", b.x.crowd(0, 1, 0), 1);
        Bench.due("a gap", b.x.crowd(0, 8, 0), 0);
        Bench.due("alike", b.x.crowd(0, 3, 0), 1);
        Bench.due("all", b.x.crowd(0, 65535, 0), 3);
        Bench.due("beyond frames", b.x.crowd(0, 65535 - 31, 0), 0);
        Bench.due("beyond frames", b.x.crowd(0, 65535 - 31, 1), 0);
        Bench.due("none", b.x.crowd(0, 0, 0), 0);
        Bench.due("none", b.x.crowd(0, 0, 1), 0);
        Bench.due("none", b.x.crowd(0, 0, 2), 0);
        Bench.due("where", b.x.crowd(0, 3, 1), 1);
        Bench.due("how many", b.x.crowd(0, 3, 2), 2);
        Bench.due("where", b.x.crowd(0, 5, 1), 0);
        Bench.due("where", b.x.crowd(0, 7, 1), 0);
        Bench.due("how many", b.x.crowd(0, 7, 2), 2);
        Bench.due("where", b.x.crowd(0, 15, 1), 1);
        Bench.due("how many", b.x.crowd(0, 15, 2), 3);
        b.orders("0@3");
        Bench.due("from the slit", b.x.crowd(0, 1, 0), 0);
        Bench.due("round", b.x.crowd(0, 6, 0), 2);
        Bench.due("wherever it is", b.x.crowd(0, 3, 1), 1);
        b.orders("0+9;0@0");
        b.law("a99(1=1)");
        b.x.ticks(1);
        Bench.due("wear aside", b.x.crowd(0, 1, 0), 1);
        Bench.due("eyes", b.x.crowd(0, -1, 0), -1);
        Bench.due("eyes", b.x.crowd(0, 65536, 0), -1);
        Bench.due("what", b.x.crowd(0, 1, 3), -1);
        Bench.due("what", b.x.crowd(0, 1, -1), -1);
    }

    private static void linked() {
        Bench b = of("ab", "cd", "e", "da", "-", "--", "f-", "e-");
        Bench.due("groups", b.x.linked(100), 5);
        int[] due = {11, 11, 132, 11, 16, 32, 64, 132};
        for (int k = 0; k < 8; k++) {
            Bench.due("group of " + k, b.x.linked(k), due[k]);
        }
        b.orders("6#1=a;4#0=e");
        Bench.due("groups", b.x.linked(100), 3);
        Bench.due("group", b.x.linked(1), 75);
        Bench.due("group", b.x.linked(7), 148);
        for (int what : new int[] {-1, 8, 99, 101, Integer.MIN_VALUE}) {
            Bench.due("no such", b.x.linked(what), -1);
        }
        Bench chain = of("gh", "fg", "ef", "de", "cd", "bc", "ab", "pa");
        Bench.due("a chain", chain.x.linked(7), 255);
        Bench.due("a chain", chain.x.linked(0), 255);
        Bench.due("one", chain.x.linked(100), 1);
        Bench few = new Bench();
        few.drum(3, "a");
        few.drum(5, "b");
        Bench.due("alone", few.x.linked(3), 8);
        Bench.due("not told", few.x.linked(4), -1);
        Bench.due("groups", few.x.linked(100), 2);
    }

    private static void dueUnseen(String drum, int want) {
        Bench.due("unseen " + drum, of(drum).x.unseen(0), want);
    }

    private static void unseen() {
        dueUnseen("a", -2);
        dueUnseen("aaaa", -2);
        dueUnseen("-", -2);
        dueUnseen("---", -2);
        dueUnseen("a-", 2);
        dueUnseen("a-a", 3);
        dueUnseen("aaaaaaaaaaaaaaa-", 16);
        dueUnseen("aaaaaaaa-aaaaaaa", 16);
        dueUnseen("ab", 2);
        dueUnseen("aab", 2);
        dueUnseen("aabb", 3);
        dueUnseen("aabb-", 2);
        dueUnseen("aaababbb", 4);
        dueUnseen("aaaabaabbababbbb", 5);
        dueUnseen("aabbc", 2);
        dueUnseen("aabaccbbc", 3);
        dueUnseen("abcdefghijklmnop", 2);
    }

    private static void necklaces() {
        Bench b = new Bench();
        long[][] oneWay = {{1, 1, 1, 1}, {2, 3, 4, 6}, {3, 6, 11, 24}, {4, 10, 24, 70}};
        long[][] anyWay = {{1, 1, 1, 1}, {2, 3, 4, 6}, {3, 6, 10, 21}, {4, 10, 20, 55}};
        for (int k = 1; k <= 4; k++) {
            for (int n = 1; n <= 4; n++) {
                Bench.due("necklaces " + n + " " + k, b.x.necklaces(n, k, false), oneWay[k - 1][n - 1]);
                Bench.due("bracelets " + n + " " + k, b.x.necklaces(n, k, true), anyWay[k - 1][n - 1]);
            }
        }
        Bench.due("necklaces", b.x.necklaces(6, 2, false), 14);
        Bench.due("bracelets", b.x.necklaces(6, 2, true), 13);
        Bench.due("necklaces", b.x.necklaces(12, 2, false), 352);
        Bench.due("bracelets", b.x.necklaces(12, 2, true), 224);
        Bench.due("necklaces", b.x.necklaces(1, 16, true), 16);
        Bench.due("necklaces", b.x.necklaces(12, 16, false), 23456249468976L);
        Bench.due("bracelets", b.x.necklaces(12, 16, true), 11728196037656L);
        Bench.due("no such n", b.x.necklaces(0, 2, false), -1);
        Bench.due("no such n", b.x.necklaces(13, 2, true), -1);
        Bench.due("no such k", b.x.necklaces(2, 0, false), -1);
        Bench.due("no such k", b.x.necklaces(2, 17, true), -1);
        Bench.due("no such k", b.x.necklaces(2, Integer.MIN_VALUE, true), -1);
    }

    private static void leaving() {
        Bench b = new Bench();
        Bench.due("alone", b.leaving(0, 0), 1);
        Bench.due("alone", b.leaving(255, 50), 1);
        Bench.due("at one tick", b.leaving(9, 0, 9, 0, 9, 0), 1);
        Bench.due("one gives way", b.leaving(9, 1, 9, 0), 2);
        Bench.due("one gives way", b.leaving(9, 0, 9, 1), 2);
        Bench.due("ahead and behind", b.leaving(9, 1, 9, 1, 9, 1, 9, 1), 3);
        Bench.due("not below 0", b.leaving(0, 1, 0, 1, 0, 1), 2);
        Bench.due("above 255", b.leaving(255, 1, 255, 1, 255, 1, 255, 1), 3);
        Bench.due("the short ones first", b.leaving(5, 3, 3, 0, 4, 0, 5, 0, 6, 0, 7, 0, 2, 0), 7);
        Bench.due("all ten", b.leaving(0, 9, 0, 9, 0, 9, 0, 9, 0, 9, 0, 9, 0, 9, 0, 9, 0, 9, 0, 9), 10);
        Bench.due("nine of ten", b.leaving(0, 8, 0, 8, 0, 8, 0, 8, 0, 8, 0, 8, 0, 8, 0, 8, 0, 8, 0, 8), 9);
        Bench.due("50", b.leaving(7, 50), 1);
        Bench.due("51", b.leaving(7, 51), -2);
        Bench.due("51", b.leaving(7, 0, 7, 255), -2);
        Bench.due("empty then", b.x.count(6), 0);
        b.bytes(7, 0, 9, 0, 0, 0, 0, 0, 0, 0, 0, 0, 0, 0, 0, 0, 0, 0, 0, 0);
        Bench.due("eleven", b.x.leaving(11), -1);
        Bench.due("none", b.x.leaving(0), -1);
        Bench.due("tape stays", b.x.count(6), 20);
        Bench.due("the first of it", b.x.leaving(2), 2);
        Bench.due("not so many", b.x.leaving(1), -1);
    }

    private static void dueMarked(int frames, int m, int many, int bits) {
        Bench b = of("abcdefghijklmnop".substring(0, frames));
        Bench.due("marked " + frames + " " + m, b.x.marked(0, m, 0), many);
        Bench.due("bits " + frames + " " + m, b.x.marked(0, m, 1), bits);
    }

    private static void marked() {
        dueMarked(1, 1, 1, 1);
        dueMarked(2, 1, 2, 3);
        dueMarked(2, 2, 1, 1);
        dueMarked(3, 2, 2, 3);
        dueMarked(4, 2, 2, 5);
        dueMarked(4, 3, 2, 3);
        dueMarked(5, 2, 3, 11);
        dueMarked(5, 3, 2, 5);
        dueMarked(7, 3, 3, 19);
        dueMarked(8, 3, 3, 37);
        dueMarked(9, 3, 3, 73);
        dueMarked(16, 1, 16, 65535);
        dueMarked(16, 2, 8, 21845);
        dueMarked(16, 15, 2, 3);
        dueMarked(16, 16, 1, 1);
        Bench b = of("a-c-");
        Bench.due("gaps are frames, too", b.x.marked(0, 2, 1), 5);
        Bench.due("more than its frames", b.x.marked(0, 5, 0), -1);
        Bench.due("no such m", b.x.marked(0, 0, 0), -1);
        Bench.due("no such m", b.x.marked(0, 17, 0), -1);
        Bench.due("no such what", b.x.marked(0, 1, 2), -1);
        Bench.due("no such what", b.x.marked(0, 1, -1), -1);
    }

    private static void refused() {
        Bench b = of("ab");
        b.bytes(0, 0, 0, 0);
        for (int k : new int[] {-1, 1, 7, 8, Integer.MAX_VALUE, Integer.MIN_VALUE}) {
            Bench.due("both", b.x.both(k, 0), -1);
            Bench.due("both", b.x.both(0, k), -1);
            Bench.due("paced", b.x.paced(k, 1, 0), -1);
            Bench.due("words", b.x.words(k, 1), -1);
            Bench.due("crowd", b.x.crowd(k, 1, 0), -1);
            Bench.due("unseen", b.x.unseen(k), -1);
            Bench.due("marked", b.x.marked(k, 1, 0), -1);
        }
        Bench.due("tape stays", b.x.count(6), 20);
    }
}
