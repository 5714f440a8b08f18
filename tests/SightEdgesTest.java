/** The boundary cases of promises 19 to 27, sentence by sentence. */
public final class SightEdgesTest {
    private static final String SIXTEEN = "abcdefghijklmnop";
    private static final int[] NO_DRUMS = {-1, 1, 6, 8, Integer.MIN_VALUE, Integer.MAX_VALUE};

    public static void main(String[] args) {
        bothNow();
        bothNever();
        bothTooMuch();
        bothRefused();
        paced();
        pacedLowest();
        pacedNever();
        pacedTooMuch();
        pacedRefused();
        words();
        wordsRefused();
        necklaces();
        necklacesRefused();
        crowdBeyond();
        crowdMost();
        crowdRefused();
        linked();
        linkedByOthers();
        linkedRefused();
        unseen();
        unseenRefused();
        leavingAlone();
        leavingNotBelow();
        leavingOneAtATick();
        leavingTooFar();
        leavingRefused();
        marked();
        markedRefused();
        Bench.end();
    }

    private static void bothNow() {
        Bench.says("BOTH: two DRUMS from where they are, so many FRAMES a TICK each (0 to 15): the first TICK (0 "
                + "now) at which the one shows a PICTURE and the other one another one");
        Bench b = Bench.of("abc", "ab-d", SIXTEEN, "abcdefghijklmno");
        Bench.due("now", b.both(0, 1, 0, 0, 0, 0), 0);
        Bench.due("now, not later", b.both(0, 1, 15, 15, 0, 0), 0);
        Bench.due("the first of many", b.both(0, 1, 1, 1, 1, 1), 1);
        Bench.due("a gap", b.both(0, 1, 0, 1, 0, 16), 2);
        Bench.due("the last of all", b.both(2, 3, 1, 1, 15, 14), 239);
        Bench.due("pace 15 of 16 is one back", b.both(2, 2, 15, 15, 1, 1), 15);
        Bench.due("pace 15 of 3 is none", b.both(0, 2, 15, 1, 0, 15), 15);
        Bench.due("picture 15", b.both(2, 2, 1, 0, 15, 0), 15);
        Bench.due("one with itself", b.both(0, 0, 1, 2, 1, 2), 1);
        b.orders("0@2;1@3");
        Bench.due("from where they are", b.both(0, 1, 1, 1, 2, 3), 0);
        Bench.due("from where they are", b.both(0, 1, 1, 1, 0, 0), 1);
        Bench.due("which is where", b.both(1, 0, 1, 1, 3, 2), 0);
    }

    private static void bothNever() {
        Bench.says("the TICK; -2: never");
        Bench b = Bench.of("abc", "ab-d", "abab", "baba");
        Bench.due("no such picture", b.both(0, 1, 1, 1, 3, 0), -2);
        Bench.due("no gap", b.both(0, 1, 1, 1, 16, 0), -2);
        Bench.due("it stands still", b.both(0, 1, 0, 1, 1, 0), -2);
        Bench.due("it stands still", b.both(0, 1, 1, 0, 0, 1), -2);
        Bench.due("never together", b.both(2, 3, 1, 1, 0, 0), -2);
        Bench.due("never there", b.both(1, 0, 2, 1, 1, 0), -2);
        Bench.due("the tape is empty", b.x.count(6), 0);
    }

    private static void bothTooMuch() {
        Bench.says("-3: a pace above 15, a PICTURE above 16");
        Bench b = Bench.of("a-", "-a");
        Bench.due("the most", b.both(0, 1, 15, 15, 16, 0), 1);
        for (int over : new int[] {0, 1}) {
            for (int i = 0; i < 4; i++) {
                int[] bytes = {15, 15, 16, 16};
                bytes[i] = over == 0 ? bytes[i] + 1 : 255;
                Bench.due("byte " + i + " is " + bytes[i], b.both(0, 1, bytes), -3);
                Bench.due("the tape is empty", b.x.count(6), 0);
            }
        }
        Bench.due("all within", b.both(0, 1, 15, 15, 16, 16), -2);
    }

    private static void bothRefused() {
        Bench.says("-3: a pace above 15, a PICTURE above 16; NONE: no such ones, it has not so many (the tape stays).");
        Bench b = Bench.of("ab");
        b.drum(7, "ab");
        Bench.due("an empty tape", b.x.both(0, 7), -1);
        b.bytes(0, 0, 0, 0);
        for (int k : NO_DRUMS) {
            Bench.due("no such drum: " + k, b.x.both(k, 0), -1);
            Bench.due("no such drum: " + k, b.x.both(0, k), -1);
            Bench.due("no such drum: " + k, b.x.both(k, k), -1);
        }
        Bench.due("the tape stays", b.x.count(6), 20);
        Bench.says("BOTH of two told DRUMS by the first 4 bytes of the tape (paces, PICTURES to be shown, 0 to 16; "
                + "empty then)");
        Bench.due("the first four of it", b.x.both(0, 7), 0);
        Bench.due("the rest is gone, too", b.x.count(6), 0);
        // also if what is told there would be too much
        b.bytes(255, 255, 255, 255);
        Bench.due("no such drum", b.x.both(0, 1), -1);
        Bench.due("the tape stays", b.x.count(6), 20);
    }

    private static void duePaced(String drum, int pace, int from, int... word) {
        Bench b = Bench.of(drum);
        Bench.due("pace of " + drum, b.paced(0, 0, word), pace);
        Bench.due("the tape is empty", b.x.count(6), 0);
        Bench.due("from, of " + drum, b.paced(0, 1, word), from);
    }

    private static void paced() {
        Bench.says("PACED: the least pace (0 to FRAMES less 1) by which a word of 1 to 16 PICTURES is seen TICK by "
                + "TICK from some FRAME on");
        duePaced("a", 0, 0, 0);
        duePaced("a", 0, 0, 0, 0, 0, 0, 0, 0, 0, 0, 0, 0, 0, 0, 0, 0, 0, 0);
        duePaced("ab", 1, 0, 0, 1);
        duePaced("ab", 1, 1, 1, 0);
        duePaced("ab", 0, 1, 1, 1);
        duePaced("abcd", 3, 0, 0, 3, 2, 1);
        duePaced("abcd", 2, 1, 1, 3, 1, 3);
        duePaced("ab-", 1, 2, 16, 0, 1);
        duePaced("ab-", 0, 2, 16);
        duePaced(SIXTEEN, 15, 15, 15, 14, 13, 12, 11, 10, 9, 8, 7, 6, 5, 4, 3, 2, 1, 0);
        duePaced(SIXTEEN, 1, 15, 15, 0, 1, 2, 3, 4, 5, 6, 7, 8, 9, 10, 11, 12, 13, 14);
        duePaced(SIXTEEN, 15, 0, 0, 15);
        duePaced("p", 0, 0, 15);
    }

    private static void pacedLowest() {
        Bench.says("from which (of that pace the lowest)");
        duePaced("aabab", 0, 0, 0);
        duePaced("baab", 0, 1, 0);
        duePaced("baab", 1, 1, 0, 0, 1);
        duePaced("abab", 1, 0, 0, 1);
        duePaced("abab", 1, 1, 1, 0);
        duePaced("cabcab", 1, 1, 0, 1, 2);
    }

    private static void pacedNever() {
        Bench.says("what 0 the pace, 1 from which FRAME; -2: by none");
        duePaced("a", -2, -2, 1);
        duePaced("a", -2, -2, 16);
        duePaced("abc", -2, -2, 0, 0, 1);
        duePaced("abcd", -2, -2, 0, 2, 1);
        duePaced(SIXTEEN, -2, -2, 15, 14, 13, 12, 11, 10, 9, 8, 7, 6, 5, 4, 3, 2, 1, 1);
    }

    private static void pacedTooMuch() {
        Bench.says("-2: by none; -3: a PICTURE above 16");
        duePaced("a", -3, -3, 17);
        duePaced("a", -3, -3, 255);
        duePaced("a", -3, -3, 0, 17);
        duePaced("a", -3, -3, 0, 0, 0, 0, 0, 0, 0, 0, 0, 0, 0, 0, 0, 0, 0, 17);
        // behind the word it is no matter
        Bench b = Bench.of("a");
        b.bytes(0, 17);
        Bench.due("one of two", b.x.paced(0, 1, 0), 0);
    }

    private static void pacedRefused() {
        Bench.says("PACED of a told DRUM by the first n bytes of the tape (PICTURES, 0 to 16; n 1 to 16; empty then)");
        Bench b = Bench.of("a");
        Bench.due("an empty tape", b.x.paced(0, 1, 0), -1);
        b.bytes(0, 0, 0, 0, 0, 0, 0, 0, 0, 0, 0, 0, 0, 0, 0, 0, 0);
        for (int n : new int[] {0, -1, 17, 20, 21, Integer.MIN_VALUE, Integer.MAX_VALUE}) {
            Bench.due("no such n: " + n, b.x.paced(0, n, 0), -1);
        }
        for (int what : new int[] {-1, 2, Integer.MIN_VALUE, Integer.MAX_VALUE}) {
            Bench.due("no such what: " + what, b.x.paced(0, 1, what), -1);
        }
        for (int k : NO_DRUMS) {
            Bench.due("no such drum: " + k, b.x.paced(k, 1, 0), -1);
        }
        Bench.due("the tape stays", b.x.count(6), 20);
        Bench.due("16 of it", b.x.paced(0, 16, 0), 0);
        Bench.due("the tape is empty", b.x.count(6), 0);
    }

    private static void words() {
        Bench.says("WORDS: how many unlike words of L (1 to 16) FRAMES are round a DRUM.");
        Bench b = Bench.of("a", "ab", "aab", "--a-", SIXTEEN, "aaaaaaaaaaaaaaab", "9-7-");
        for (int length = 1; length <= 16; length++) {
            Bench.due("words of a", b.x.words(0, length), 1);
            Bench.due("words of ab", b.x.words(1, length), 2);
            Bench.due("words of aab", b.x.words(2, length), length == 1 ? 2 : 3);
            Bench.due("words of --a-", b.x.words(3, length), Math.min(length + 1, 4));
            Bench.due("words of sixteen", b.x.words(4, length), 16);
            Bench.due("words of a and a b", b.x.words(5, length), Math.min(length + 1, 16));
            Bench.due("words of gaps", b.x.words(6, length), 1);
        }
    }

    private static void wordsRefused() {
        Bench.says("WORDS of L (1 to 16) FRAMES round a told DRUM; NONE: no such ones.");
        Bench b = Bench.of("ab");
        for (int length : new int[] {0, -1, 17, Integer.MIN_VALUE, Integer.MAX_VALUE}) {
            Bench.due("no such length: " + length, b.x.words(0, length), -1);
        }
        for (int k : NO_DRUMS) {
            Bench.due("no such drum: " + k, b.x.words(k, 1), -1);
        }
    }

    private static void necklaces() {
        Bench.says("NECKLACES: how many unlike DRUMS of n (1 to 12) FRAMES there can be with k (1 to 16) PICTURES, "
                + "if where one begins is no matter; if which way it is read is none, either.");
        Bench b = new Bench();
        for (int k = 1; k <= 16; k++) {
            Bench.due("of one frame", b.x.necklaces(1, k, false), k);
            Bench.due("of one frame", b.x.necklaces(1, k, true), k);
            Bench.due("of two frames", b.x.necklaces(2, k, false), k * (k + 1) / 2);
            Bench.due("of two frames", b.x.necklaces(2, k, true), k * (k + 1) / 2);
            Bench.due("of three frames", b.x.necklaces(3, k, false), (k * k * k + 2 * k) / 3);
            Bench.due("of three frames", b.x.necklaces(3, k, true), k * (k + 1) * (k + 2) / 6);
        }
        for (int n = 1; n <= 12; n++) {
            Bench.due("of one picture", b.x.necklaces(n, 1, false), 1);
            Bench.due("of one picture", b.x.necklaces(n, 1, true), 1);
        }
        long[] two = {2, 3, 4, 6, 8, 14, 20, 36, 60, 108, 188, 352};
        long[] twoAny = {2, 3, 4, 6, 8, 13, 18, 30, 46, 78, 126, 224};
        for (int n = 1; n <= 12; n++) {
            Bench.due("of two pictures, " + n, b.x.necklaces(n, 2, false), two[n - 1]);
            Bench.due("of two pictures any way, " + n, b.x.necklaces(n, 2, true), twoAny[n - 1]);
        }
        Bench.due("the most", b.x.necklaces(12, 16, false), 23456249468976L);
        Bench.due("the most any way", b.x.necklaces(12, 16, true), 11728196037656L);
        Bench.due("an odd number", b.x.necklaces(11, 16, false), 1599289640416L);
        Bench.due("an odd number any way", b.x.necklaces(11, 16, true), 799653208816L);
    }

    private static void necklacesRefused() {
        Bench.says("NECKLACES of n (1 to 12) FRAMES with k (1 to 16) PICTURES, read one way or any (true); NONE: no "
                + "such ones.");
        Bench b = new Bench();
        for (boolean any : new boolean[] {false, true}) {
            for (int n : new int[] {0, -1, 13, Integer.MIN_VALUE, Integer.MAX_VALUE}) {
                Bench.due("no such n: " + n, b.x.necklaces(n, 2, any), -1);
            }
            for (int k : new int[] {0, -1, 17, Integer.MIN_VALUE, Integer.MAX_VALUE}) {
                Bench.due("no such k: " + k, b.x.necklaces(2, k, any), -1);
            }
            Bench.due("12 and 17", b.x.necklaces(12, 17, any), -1);
            Bench.due("13 and 16", b.x.necklaces(13, 16, any), -1);
        }
    }

    private static void crowdBeyond() {
        Bench.says("CROWD: eyes at slits (bit i: FRAME i on from that at the slit, round; beyond FRAMES none): how "
                + "many unlike PICTURES (no GAPS) they see now");
        Bench b = Bench.of("aab-c", SIXTEEN, "abcdefghijklmno", "-");
        Bench.due("no eyes", b.x.crowd(0, 0, 0), 0);
        Bench.due("the first", b.x.crowd(0, 1, 0), 1);
        Bench.due("alike ones", b.x.crowd(0, 3, 0), 1);
        Bench.due("a gap", b.x.crowd(0, 8, 0), 0);
        Bench.due("the last", b.x.crowd(0, 16, 0), 1);
        Bench.due("one beyond", b.x.crowd(0, 32, 0), 0);
        Bench.due("all beyond", b.x.crowd(0, 65535 - 31, 0), 0);
        Bench.due("all", b.x.crowd(0, 65535, 0), 3);
        Bench.due("all of sixteen", b.x.crowd(1, 65535, 0), 16);
        Bench.due("the last of sixteen", b.x.crowd(1, 32768, 0), 1);
        Bench.due("beyond fifteen", b.x.crowd(2, 32768, 0), 0);
        Bench.due("all of fifteen", b.x.crowd(2, 65535, 0), 15);
        Bench.due("gaps alone", b.x.crowd(3, 65535, 0), 0);
        b.orders("0@3;1@15");
        Bench.due("round", b.x.crowd(0, 2, 0), 1);
        Bench.due("round", b.x.crowd(0, 1 + 4 + 8, 0), 1);
        Bench.due("round", b.x.crowd(0, 16 + 4, 0), 2);
        Bench.due("round", b.x.crowd(1, 32769, 0), 2);
    }

    private static void crowdMost() {
        Bench.says("at which POSITION they would see most (of like ones the lowest); how many then");
        Bench b = Bench.of("aab-c", SIXTEEN, "--a", "-");
        int[][] drumEyesWhereMany = {
            {0, 0, 0, 0}, {0, 32, 0, 0}, {0, 1, 0, 1}, {0, 3, 1, 2}, {0, 5, 0, 2}, {0, 7, 0, 2}, {0, 15, 1, 3},
            {0, 65535, 0, 3}, {1, 65535, 0, 16}, {1, 32768, 0, 1}, {2, 1, 2, 1}, {2, 4, 0, 1}, {2, 2, 1, 1}, {3, 1, 0, 0}
        };
        for (int[] t : drumEyesWhereMany) {
            Bench.due("where " + t[0] + " " + t[1], b.x.crowd(t[0], t[1], 1), t[2]);
            Bench.due("how many " + t[0] + " " + t[1], b.x.crowd(t[0], t[1], 2), t[3]);
        }
        b.orders("0@4;2@1");
        Bench.due("wherever it is now", b.x.crowd(0, 3, 1), 1);
        Bench.due("wherever it is now", b.x.crowd(2, 1, 1), 2);
        Bench.due("wherever it is now", b.x.crowd(2, 1, 2), 1);
    }

    private static void crowdRefused() {
        Bench.says("CROWD of a told DRUM by eyes (bits, 0 to 65535), what 0 how many now, 1 the POSITION, 2 how many "
                + "then; NONE: no such ones.");
        Bench b = Bench.of("ab");
        for (int what = 0; what <= 2; what++) {
            for (int eyes : new int[] {-1, 65536, 65537, Integer.MIN_VALUE, Integer.MAX_VALUE}) {
                Bench.due("no such eyes: " + eyes, b.x.crowd(0, eyes, what), -1);
            }
            for (int k : NO_DRUMS) {
                Bench.due("no such drum: " + k, b.x.crowd(k, 1, what), -1);
            }
            Bench.due("no eyes", b.x.crowd(0, 0, what), 0);
        }
        for (int what : new int[] {-1, 3, Integer.MIN_VALUE, Integer.MAX_VALUE}) {
            Bench.due("no such what: " + what, b.x.crowd(0, 1, what), -1);
        }
    }

    private static void linked() {
        Bench.says("LINKED are two told DRUMS that have a PICTURE in common");
        Bench none = new Bench();
        Bench.due("none is told", none.x.linked(100), 0);
        Bench one = Bench.of("a");
        Bench.due("one", one.x.linked(100), 1);
        Bench.due("its own", one.x.linked(0), 1);
        Bench b = Bench.of("-a", "-b", "a-", "-");
        Bench.due("a gap is no picture", b.x.linked(100), 3);
        int[] due = {5, 2, 5, 8};
        for (int k = 0; k < 4; k++) {
            Bench.due("group of " + k, b.x.linked(k), due[k]);
        }
        b.orders("3#0=p;1#0=p");
        Bench.due("p", b.x.linked(3), 10);
        Bench.due("groups", b.x.linked(100), 2);
    }

    private static void linkedByOthers() {
        Bench.says("groups of those LINKED, directly or by others: how many; one's (bits)");
        Bench down = Bench.of("gh", "fg", "ef", "de", "cd", "bc", "ab", "pa");
        Bench up = Bench.of("pa", "ab", "bc", "cd", "de", "ef", "fg", "gh");
        Bench mixed = Bench.of("ab", "gh", "cd", "ef", "de", "bc", "fg", "pa");
        for (int k = 0; k < 8; k++) {
            Bench.due("a chain", down.x.linked(k), 255);
            Bench.due("a chain", up.x.linked(k), 255);
            Bench.due("a chain", mixed.x.linked(k), 255);
        }
        Bench.due("one group", down.x.linked(100), 1);
        Bench.due("one group", mixed.x.linked(100), 1);
        Bench eight = Bench.of("a", "b", "c", "d", "e", "f", "g", "h");
        Bench.due("eight groups", eight.x.linked(100), 8);
        for (int k = 0; k < 8; k++) {
            Bench.due("alone", eight.x.linked(k), 1 << k);
        }
        Bench two = Bench.of("ab", "cd", "bp", "de", "pa", "ef", "a", "c");
        Bench.due("two groups", two.x.linked(100), 2);
        Bench.due("the one", two.x.linked(6), 1 + 4 + 16 + 64);
        Bench.due("the other", two.x.linked(7), 2 + 8 + 32 + 128);
    }

    private static void linkedRefused() {
        Bench.says("LINKED, what 100 how many groups, else that of told DRUM what (bits); NONE: no such ones.");
        Bench b = Bench.of("ab");
        b.drum(7, "a");
        for (int what : new int[] {-1, 1, 6, 8, 99, 101, -100, Integer.MIN_VALUE, Integer.MAX_VALUE}) {
            Bench.due("no such: " + what, b.x.linked(what), -1);
        }
        Bench.due("the last", b.x.linked(7), 129);
    }

    private static void dueUnseen(String drum, int want) {
        Bench.due("unseen " + drum, Bench.of(drum).x.unseen(0), want);
    }

    private static void unseen() {
        Bench.says("UNSEEN: the least length of a word of a DRUM's own PICTURES (no GAPS) that is nowhere round it "
                + "(to 16).");
        dueUnseen("a-", 2);
        dueUnseen("a-a", 3);
        dueUnseen("aaaaaaaaaaaaaa--", 15);
        dueUnseen("aaaaaaaaaaaaaaa-", 16);
        dueUnseen("aaaaaaa-aaaaaaaa", 16);
        dueUnseen("ab", 2);
        dueUnseen("aabb", 3);
        dueUnseen("aabb-", 2);
        dueUnseen("aab-bba", 3);
        // a word goes on from its first FRAME, not back
        dueUnseen("a-aa-", 3);
        dueUnseen("aaba-a", 2);
        dueUnseen("aabb-a", 2);
        dueUnseen("aaababbb", 4);
        dueUnseen("aaaabaabbababbbb", 5);
        dueUnseen("aabaccbbc", 3);
        dueUnseen(SIXTEEN, 2);
    }

    private static void unseenRefused() {
        Bench.says("UNSEEN of a told DRUM; -2: none up to 16, it has no PICTURE; NONE: no such one.");
        dueUnseen("a", -2);
        dueUnseen("aa", -2);
        dueUnseen("aaaaaaaaaaaaaaaa", -2);
        dueUnseen("-", -2);
        dueUnseen("9-7-", -2);
        Bench b = Bench.of("a");
        for (int k : NO_DRUMS) {
            Bench.due("no such drum: " + k, b.x.unseen(k), -1);
        }
    }

    private static int leaving(int... pairs) {
        return new Bench().leaving(pairs);
    }

    private static int[] alike(int many, int tick, int far) {
        int[] pairs = new int[2 * many];
        for (int i = 0; i < many; i++) {
            pairs[2 * i] = tick;
            pairs[2 * i + 1] = far;
        }
        return pairs;
    }

    private static void leavingAlone() {
        Bench.says("LEAVING: 1 to 10 prisoners, each would leave at a TICK (0 to 255)");
        Bench.due("at 0", leaving(0, 0), 1);
        Bench.due("at 255", leaving(255, 0), 1);
        Bench.due("at 0, far", leaving(0, 50), 1);
        Bench.due("at 255, far", leaving(255, 50), 1);
        for (int many = 1; many <= 10; many++) {
            Bench.due(many + " at one", leaving(alike(many, 100, 0)), 1);
            Bench.due(many + " near one", leaving(alike(many, 100, 50)), many);
        }
    }

    private static void leavingNotBelow() {
        Bench.says("and can from so many TICKS ahead (not below 0) to so many behind it (0 to 50)");
        for (int far = 0; far <= 10; far++) {
            Bench.due("ten at 0, far " + far, leaving(alike(10, 0, far)), Math.min(10, far + 1));
            Bench.due("ten at 1, far " + far, leaving(alike(10, 1, far)), Math.min(10, far == 0 ? 1 : far + 2));
            Bench.due("ten at 255, far " + far, leaving(alike(10, 255, far)), Math.min(10, 2 * far + 1));
            Bench.due("ten at 9, far " + far, leaving(alike(10, 9, far)), Math.min(10, 2 * far + 1));
        }
        // just within reach of one another, and just not
        Bench.due("50 ahead", leaving(60, 50, 10, 0), 2);
        Bench.due("only 50 ahead is free", leaving(11, 1, 10, 0, 11, 0, 12, 0), 3);
        Bench.due("one behind is free", leaving(11, 2, 10, 0, 11, 0, 12, 0, 9, 0), 5);
    }

    private static void leavingOneAtATick() {
        Bench.says("one at a TICK: the most that can leave");
        Bench.due("one gives way", leaving(5, 1, 5, 0), 2);
        Bench.due("one gives way", leaving(5, 0, 5, 1), 2);
        Bench.due("three at three", leaving(5, 1, 5, 1, 5, 1), 3);
        Bench.due("three of four", leaving(5, 1, 5, 1, 5, 1, 5, 1), 3);
        Bench.due("the short ones first", leaving(5, 3, 3, 0, 4, 0, 5, 0, 6, 0, 7, 0, 2, 0), 7);
        Bench.due("those who must first", leaving(10, 2, 9, 1, 8, 0, 9, 0), 4);
        Bench.due("whose last tick comes first", leaving(5, 0, 6, 1), 2);
        Bench.due("whose last tick comes first", leaving(6, 1, 5, 0), 2);
        Bench.due("whose last tick comes first", leaving(5, 0, 6, 1, 7, 2), 3);
        // who could leave first should not
        Bench.due("the long one waits", leaving(50, 50, 0, 0), 2);
        Bench.due("at the very end", leaving(255, 50, 255, 49, 255, 0), 3);
    }

    private static void leavingTooFar() {
        Bench.says("-2: one of more than 50");
        Bench b = new Bench();
        Bench.due("50", b.leaving(7, 50), 1);
        Bench.due("51", b.leaving(7, 51), -2);
        Bench.due("the tape is empty", b.x.count(6), 0);
        Bench.due("255", b.leaving(7, 255), -2);
        Bench.due("the first of two", b.leaving(7, 51, 7, 0), -2);
        Bench.due("the last of ten", b.leaving(1, 1, 2, 2, 3, 3, 4, 4, 5, 5, 6, 6, 7, 7, 8, 8, 9, 9, 0, 51), -2);
        b.bytes(7, 0, 7, 51);
        Bench.due("behind the first it is no matter", b.x.leaving(1), 1);
        Bench.due("a tick above 50 is none", b.leaving(51, 0, 255, 0), 2);
    }

    private static void leavingRefused() {
        Bench.says("LEAVING by the first 2 n bytes of the tape (TICK, how far; n 1 to 10; empty then)");
        Bench b = new Bench();
        Bench.due("an empty tape", b.x.leaving(1), -1);
        b.bytes(0, 0, 1, 0, 2, 0, 3, 0, 4, 0, 5, 0, 6, 0, 7, 0, 8, 0, 9, 0, 10, 0);
        for (int n : new int[] {0, -1, 11, 20, 1 << 30, 1 << 31, Integer.MAX_VALUE}) {
            Bench.due("no such n: " + n, b.x.leaving(n), -1);
        }
        Bench.due("the tape stays", b.x.count(6), 40);
        Bench.due("ten of it", b.x.leaving(10), 10);
        Bench.due("the tape is empty", b.x.count(6), 0);
        b.bytes(0, 0, 1, 0, 2, 0, 3, 0, 4, 0, 5, 0, 6, 0, 7, 0, 8, 0, 9, 0);
        Bench.due("ten are all that it has", b.x.leaving(10), 10);
    }

    private static void marked() {
        Bench.says("MARKED: a DRUM's FRAMES (bits) so that in each row of m (1 to 16) side by side (round) at least "
                + "one is marked: the fewest; the least bits");
        for (int frames = 1; frames <= 16; frames++) {
            Bench b = Bench.of(SIXTEEN.substring(0, frames));
            for (int m = 1; m <= frames; m++) {
                int bits = leastMarks(frames, m);
                Bench.due("marked " + frames + " " + m, b.x.marked(0, m, 0), Integer.bitCount(bits));
                Bench.due("bits " + frames + " " + m, b.x.marked(0, m, 1), bits);
            }
        }
        Bench gaps = Bench.of("a-c-");
        Bench.due("gaps are frames, too", gaps.x.marked(0, 2, 1), 5);
    }

    /** By trying all there are, the least first. */
    private static int leastMarks(int frames, int m) {
        int best = (1 << frames) - 1;
        for (int bits = 1; bits < 1 << frames; bits++) {
            boolean each = Integer.bitCount(bits) < Integer.bitCount(best);
            for (int from = 0; from < frames && each; from++) {
                boolean one = false;
                for (int i = 0; i < m; i++) {
                    one |= (bits >> (from + i) % frames & 1) == 1;
                }
                each = one;
            }
            best = each ? bits : best;
        }
        return best;
    }

    private static void markedRefused() {
        Bench.says("MARKED of a told DRUM, m (1 to 16, no more than its FRAMES), what 0 how many, 1 which (bits); "
                + "NONE: no such ones.");
        for (int frames = 1; frames <= 16; frames++) {
            Bench b = Bench.of(SIXTEEN.substring(0, frames));
            Bench.due("as many as frames", b.x.marked(0, frames, 0), 1);
            Bench.due("as many as frames", b.x.marked(0, frames, 1), 1);
            Bench.due("each", b.x.marked(0, 1, 1), (1 << frames) - 1);
            for (int m : new int[] {0, -1, frames + 1, 17, Integer.MIN_VALUE, Integer.MAX_VALUE}) {
                Bench.due("no such m: " + m, b.x.marked(0, m, 0), -1);
                Bench.due("no such m: " + m, b.x.marked(0, m, 1), -1);
            }
        }
        Bench b = Bench.of("ab");
        for (int what : new int[] {-1, 2, Integer.MIN_VALUE, Integer.MAX_VALUE}) {
            Bench.due("no such what: " + what, b.x.marked(0, 1, what), -1);
        }
        for (int k : NO_DRUMS) {
            Bench.due("no such drum: " + k, b.x.marked(k, 1, 0), -1);
        }
    }
}
