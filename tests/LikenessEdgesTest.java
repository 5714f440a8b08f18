/** The boundary cases of promises 13 to 18, sentence by sentence. */
public final class LikenessEdgesTest {
    private static final String SIXTEEN = "abcdefghijklmnop";

    public static void main(String[] args) {
        wearAside();
        same();
        sameOfAsMany();
        theLeast();
        turned();
        least();
        leastOfLikeOnes();
        period();
        painted();
        noDivisor();
        mirror();
        edits();
        editsWhereverEachBegins();
        common();
        commonOfFewer();
        twins();
        twinsOfLikeOnes();
        twinsOfAsMany();
        forward();
        forwardGapsAside();
        runs();
        unlikePictures();
        storyOfNone();
        any();
        Bench.end();
    }

    private static void wearAside() {
        Bench.says("Below, FRAMES are as they were told or painted over (WEAR aside; a GAP is 16).");
        Bench b = Bench.of("ba-", "ba-", "b--");
        b.orders("0+9;0@1");
        b.law("a99(1=1)");
        b.x.ticks(1);
        Bench.due("shows", b.x.drumIs(0, 6), 16);
        Bench.due("same", b.x.same(0, 1, false), 0);
        Bench.due("not as it shows", b.x.same(0, 2, false), -2);
        Bench.due("least", b.x.story(0, 0), 1);
        Bench.due("forward", b.x.story(0, 3), -1);
        Bench.due("run", b.x.story(0, 4), 2);
        Bench.due("gaps", b.x.story(0, 5), 1);
        Bench.due("pictures", b.x.story(0, 6), 2);
        Bench.due("edits", b.x.edits(0, 1), 0);
        Bench.due("common", b.x.common(0, 1), 3);
        Bench.due("twins", b.x.twins(0, 1, 1), 3);
        Bench.due("painted", b.x.painted(0, 1), 2);
        b.orders("0#1=-");
        Bench.due("painted over", b.x.same(0, 1, false), -2);
        Bench.due("painted over", b.x.same(0, 2, false), 0);
        Bench.due("least", b.x.story(0, 0), 0);
        Bench.due("gaps", b.x.story(0, 5), 2);
        Bench.due("painted", b.x.painted(0, 1), 1);
    }

    private static void dueSame(String first, String second, boolean turned, int want) {
        Bench b = Bench.of(first, second);
        Bench.due("same " + first + " " + second + " " + turned, b.x.same(0, 1, turned), want);
    }

    private static void same() {
        Bench.says("how many FRAMES on the second one must be read to be as the first one");
        dueSame("a", "a", false, 0);
        dueSame("a", "b", false, -2);
        dueSame("-", "-", false, 0);
        dueSame("-", "p", false, -2);
        dueSame("abcd", "dabc", false, 1);
        dueSame("abcd", "bcda", false, 3);
        dueSame("abcd", "abdc", false, -2);
        for (int turn = 0; turn < 16; turn++) {
            String second = SIXTEEN.substring(turn) + SIXTEEN.substring(0, turn);
            dueSame(SIXTEEN, second, false, (16 - turn) % 16);
            dueSame(second, SIXTEEN, false, turn);
            dueSame(second, SIXTEEN, true, -2);
        }
    }

    private static void sameOfAsMany() {
        Bench.says("SAME, TURNED (true) of two told DRUMS (any); -2: they are not; NONE: no such ones.");
        dueSame("ab", "ac", false, -2);
        dueSame("ab", "ac", true, -2);
        Bench.says("SAME: two DRUMS of as many FRAMES");
        dueSame("a", "aa", false, -2);
        dueSame("aa", "a", false, -2);
        dueSame("ab", "abab", false, -2);
        dueSame("aaaaaaaaaaaaaaaa", "aaaaaaaaaaaaaaa", false, -2);
        dueSame("aaaaaaaaaaaaaaa", "aaaaaaaaaaaaaaaa", true, -2);
    }

    private static void theLeast() {
        Bench.says("how many FRAMES on the second one must be read to be as the first one (the least)");
        dueSame("aaaa", "aaaa", false, 0);
        dueSame("aaaa", "aaaa", true, 0);
        dueSame("abab", "baba", false, 1);
        dueSame("abab", "abab", true, 0);
        dueSame("abcabc", "cabcab", false, 1);
        dueSame("abcabc", "bcabca", false, 2);
    }

    private static void turned() {
        Bench.says("TURNED: the second one read backward (from that FRAME on back)");
        dueSame("a", "a", true, 0);
        dueSame("ab", "ab", true, 0);
        dueSame("abc", "abc", true, -2);
        dueSame("abcd", "dcba", true, 3);
        dueSame("abcd", "adcb", true, 0);
        dueSame("abcd", "badc", true, 1);
        dueSame("ab-d", "-bad", true, 2);
        for (int turn = 0; turn < 16; turn++) {
            StringBuilder back = new StringBuilder();
            for (int i = 0; i < 16; i++) {
                back.append(SIXTEEN.charAt((turn - i + 16) % 16));
            }
            dueSame(SIXTEEN, back.toString(), true, turn);
            dueSame(SIXTEEN, back.toString(), false, -2);
        }
    }

    private static void dueStory(String drum, int what, int want) {
        Bench.due("story " + drum + " " + what, Bench.of(drum).x.story(0, what), want);
    }

    private static void least() {
        Bench.says("LEAST: where a DRUM must begin so that its row is least");
        dueStory("a", 0, 0);
        dueStory("-", 0, 0);
        dueStory("ba", 0, 1);
        dueStory("ab", 0, 0);
        dueStory("-p", 0, 1);
        dueStory("p-", 0, 0);
        dueStory("bbba", 0, 3);
        dueStory("aabaa", 0, 3);
        dueStory("abaab", 0, 2);
        dueStory("abaabab", 0, 2);
        dueStory("a-ab", 0, 2);
        dueStory("ponmlkjihgfedcba", 0, 15);
        dueStory(SIXTEEN, 0, 0);
    }

    private static void leastOfLikeOnes() {
        Bench.says("so that its row is least (of like ones the lowest)");
        dueStory("aaaaaaaaaaaaaaaa", 0, 0);
        dueStory("baba", 0, 1);
        dueStory("bababababababa", 0, 1);
        dueStory("cabcab", 0, 1);
        dueStory("----", 0, 0);
    }

    private static void period() {
        Bench.says("PERIOD: the least number of FRAMES by which a DRUM can be turned so that it is as it was.");
        dueStory("a", 1, 1);
        dueStory("aa", 1, 1);
        dueStory("ab", 1, 2);
        dueStory("aaaaaaaaaaaaaaaa", 1, 1);
        dueStory("abab", 1, 2);
        dueStory("ababa", 1, 5);
        dueStory("aabaab", 1, 3);
        dueStory("abcdefghabcdefgh", 1, 8);
        dueStory("abcdefghabcdefg-", 1, 16);
        dueStory(SIXTEEN, 1, 16);
        dueStory("a-a-a-", 1, 2);
    }

    private static void duePainted(String drum, int d, int want) {
        Bench.due("painted " + drum + " " + d, Bench.of(drum).x.painted(0, d), want);
    }

    private static void painted() {
        Bench.says("PAINTED: the fewest FRAMES to be painted over so that a DRUM is as it was when turned by d (1 to "
                + "FRAMES, a divisor of them) FRAMES");
        duePainted("a", 1, 0);
        duePainted("ab", 1, 1);
        duePainted("ab", 2, 0);
        duePainted("aabb", 1, 2);
        duePainted("aabb", 2, 2);
        duePainted("aabb", 4, 0);
        duePainted("aab", 1, 1);
        duePainted("a--", 1, 1);
        duePainted("abcabd", 3, 1);
        duePainted(SIXTEEN, 1, 15);
        duePainted(SIXTEEN, 2, 14);
        duePainted(SIXTEEN, 4, 12);
        duePainted(SIXTEEN, 8, 8);
        duePainted(SIXTEEN, 16, 0);
    }

    private static void noDivisor() {
        Bench.says("-2: d is no divisor; NONE: no such ones (d 1 to 16)");
        for (int frames = 1; frames <= 16; frames++) {
            Bench b = Bench.of(SIXTEEN.substring(0, frames));
            for (int d = 1; d <= 16; d++) {
                Bench.due("painted " + frames + " by " + d, b.x.painted(0, d), frames % d == 0 ? frames - d : -2);
            }
            for (int d : new int[] {0, -1, 17, -frames, 32, Integer.MIN_VALUE, Integer.MAX_VALUE}) {
                Bench.due("no such d: " + d, b.x.painted(0, d), -1);
            }
        }
    }

    private static void mirror() {
        Bench.says("MIRROR: the fewest so that for some beginning FRAMES from there on (round) are as those from the "
                + "one ahead of it on back.");
        dueStory("a", 2, 0);
        dueStory("-", 2, 0);
        dueStory("aa", 2, 0);
        dueStory("ab", 2, 1);
        dueStory("aba", 2, 0);
        dueStory("abc", 2, 1);
        dueStory("abba", 2, 0);
        dueStory("aabc", 2, 1);
        dueStory("bcaa", 2, 1);
        dueStory("baab", 2, 0);
        dueStory("aabb", 2, 0);
        // read alike both ways from its first FRAME, but not from between two
        dueStory("abac", 2, 2);
        dueStory("abab", 2, 2);
        dueStory("abcba", 2, 0);
        dueStory("cbaab", 2, 0);
        dueStory("a--a", 2, 0);
        dueStory(SIXTEEN, 2, 8);
        dueStory("abcdefghhgfedcba", 2, 0);
        dueStory("defghhgfedcbaabc", 2, 0);
        dueStory("defghhgfedcbaab-", 2, 1);
        dueStory("abcdefghijklmno", 2, 7);
    }

    private static void dueEdits(String first, String second, int want) {
        Bench b = Bench.of(first, second);
        Bench.due("edits " + first + " " + second, b.x.edits(0, 1), want);
        Bench.due("edits " + second + " " + first, b.x.edits(1, 0), want);
    }

    private static void edits() {
        Bench.says("EDITS: the fewest FRAMES painted over, put in or taken out that make one DRUM the other one");
        dueEdits("a", "a", 0);
        dueEdits("a", "b", 1);
        dueEdits("a", "-", 1);
        dueEdits("a", "ab", 1);
        dueEdits("a", "bc", 2);
        dueEdits("abc", "ab", 1);
        dueEdits("a", "aaaaaaaaaaaaaaaa", 15);
        dueEdits("p", "aaaaaaaaaaaaaaaa", 16);
        dueEdits("aaaaaaaaaaaaaaaa", "bbbbbbbbbbbbbbbb", 16);
        dueEdits(SIXTEEN, SIXTEEN, 0);
        dueEdits(SIXTEEN, "abcdefghijklmno", 1);
        dueEdits("ab-cd", "abcd", 1);
        dueEdits("abcd", "acbd", 2);
        dueEdits("abcdef", "bacdfe", 3);
    }

    private static void editsWhereverEachBegins() {
        Bench.says("that make one DRUM the other one, wherever each begins");
        dueEdits("abcd", "dabc", 0);
        dueEdits("abcd", "cdab", 0);
        dueEdits("abcd", "dab", 1);
        dueEdits("abcd", "cda-b", 1);
        dueEdits(SIXTEEN, "ijklmnopabcdefgh", 0);
        dueEdits(SIXTEEN, "ijklmnopabcdefg", 1);
        // not read the other way round
        dueEdits("abc", "cba", 2);
    }

    private static void dueCommon(String first, String second, int want) {
        Bench b = Bench.of(first, second);
        Bench.due("common " + first + " " + second, b.x.common(0, 1), want);
        Bench.due("common " + second + " " + first, b.x.common(1, 0), want);
    }

    private static void common() {
        Bench.says("COMMON: the longest row of FRAMES side by side (round");
        dueCommon("a", "b", 0);
        dueCommon("a", "-", 0);
        dueCommon("-", "-", 1);
        dueCommon("abc", "pca", 2);
        dueCommon("abc", "acb", 1);
        dueCommon("abcd", "dp-c", 2);
        dueCommon("a--b", "c--d", 2);
        dueCommon(SIXTEEN, "ijklmnopabcdefgh", 16);
        dueCommon(SIXTEEN, "hijklmnopabcdef-", 15);
    }

    private static void commonOfFewer() {
        Bench.says("round; no more than the FRAMES of the one that has fewer) that both have");
        dueCommon("a", "aaaa", 1);
        dueCommon("aaa", "aaaaaaaaaaaaaaaa", 3);
        dueCommon("ab", "abab", 2);
        dueCommon("ab", "ababab", 2);
        dueCommon("abc", "cab", 3);
        dueCommon("aaaaaaaaaaaaaaaa", "aaaaaaaaaaaaaaa", 15);
    }

    private static void dueTwins(String first, String second, int turn, int many) {
        Bench b = Bench.of(first, second);
        Bench.due("twins " + first + " " + second, b.x.twins(0, 1, 0), turn);
        Bench.due("twins' number " + first + " " + second, b.x.twins(0, 1, 1), many);
    }

    private static void twins() {
        Bench.says("TWINS: two DRUMS of as many FRAMES: by which turn of the second one most FRAMES are alike");
        dueTwins("a", "a", 0, 1);
        dueTwins("a", "b", 0, 0);
        dueTwins("-", "-", 0, 1);
        dueTwins("abcd", "dabc", 1, 4);
        dueTwins("abcd", "bcda", 3, 4);
        dueTwins("abcd", "babc", 1, 3);
        dueTwins(SIXTEEN, "bcdefghijklmnopa", 15, 16);
        dueTwins(SIXTEEN, "-bcdefghijklmnop", 0, 15);
    }

    private static void twinsOfLikeOnes() {
        Bench.says("most FRAMES are alike (of like ones the least); how many");
        dueTwins("abcd", "efgh", 0, 0);
        dueTwins("aaaa", "aaaa", 0, 4);
        dueTwins("abab", "baba", 1, 4);
        dueTwins("abc", "cba", 0, 1);
        dueTwins("aabb", "abab", 0, 2);
        dueTwins("ppab", "abpp", 2, 4);
        dueTwins("aaaaaaaaaaaaaaaa", "bbbbbbbbbbbbbbbb", 0, 0);
    }

    private static void twinsOfAsMany() {
        Bench.says("what 0 the turn, 1 how many; -2: not as many FRAMES; NONE: no such ones");
        dueTwins("a", "aa", -2, -2);
        dueTwins("aa", "a", -2, -2);
        dueTwins("aaaaaaaaaaaaaaaa", "aaaaaaaaaaaaaaa", -2, -2);
        Bench b = Bench.of("ab", "ab", "a");
        for (int what : new int[] {-1, 2, Integer.MIN_VALUE, Integer.MAX_VALUE}) {
            Bench.due("no such what: " + what, b.x.twins(0, 1, what), -1);
            Bench.due("no such what: " + what, b.x.twins(0, 2, what), -1);
        }
    }

    private static void forward() {
        Bench.says("by how much it goes on, if less than 8 forward, more than 8 back (16 less it), 8 neither: all "
                + "forward less all back");
        dueStory("a", 3, 0);
        dueStory("ab", 3, 0);
        // a to h is 7 on, h to p is 8, p to a is 1 on
        dueStory("ahp", 3, 8);
        // a to i is 8, i to j is 1 on, j to a is 7 on
        dueStory("aij", 3, 8);
        // a to j is 9: 7 back, j to i is 1 back, i to a is 8
        dueStory("aji", 3, -8);
        dueStory("ai", 3, 0);
        dueStory("afkp", 3, 16);
        dueStory("apkf", 3, -16);
        dueStory("aaaaaaaaaaaaaaaa", 3, 0);
        dueStory(SIXTEEN, 3, 16);
        dueStory("ponmlkjihgfedcba", 3, -16);
        // as much as there can be: seven on, sixteen times
        dueStory("ahofmdkbipgnelcj", 3, 16 * 7);
        dueStory("jclengpibkdmfoha", 3, -16 * 7);
    }

    private static void forwardGapsAside() {
        Bench.says("FORWARD: PICTURES as hours 0 to 15 of a dial: from FRAME to the next one (round; GAPS aside: "
                + "those with one left out)");
        dueStory("-", 3, 0);
        dueStory("a-", 3, 0);
        dueStory("-a", 3, 0);
        dueStory("-abc", 3, 2);
        dueStory("abc-", 3, 2);
        dueStory("bc-a", 3, 1 + 1);
        dueStory("c-ab", 3, 1 + 1);
        dueStory("ab--cd", 3, 1 + 1 - 3);
        dueStory("a-b-c-", 3, 0);
    }

    private static void runs() {
        Bench.says("RUN: the longest row of FRAMES side by side (round) that are no GAPS; that are.");
        String[] drums = {"a", "-", "a-", "--a-", "a--b", "ab-cd", "abcdefghijklmnop", "9-7-", "--a--", "a-b--cc-", "b-aa-"};
        int[] noGaps = {1, 0, 1, 1, 2, 4, 16, 0, 1, 2, 2};
        int[] gaps = {0, 1, 1, 3, 2, 1, 0, 16, 4, 2, 1};
        for (int i = 0; i < drums.length; i++) {
            dueStory(drums[i], 4, noGaps[i]);
            dueStory(drums[i], 5, gaps[i]);
        }
        dueStory("aaaaaaaaaaaaaaa-", 4, 15);
        dueStory("aaaaaaa-aaaaaaaa", 4, 15);
        dueStory("-------a--------", 5, 15);
    }

    private static void unlikePictures() {
        Bench.says("6 how many unlike PICTURES (a GAP is none)");
        dueStory("-", 6, 0);
        dueStory("a", 6, 1);
        dueStory("a-a-", 6, 1);
        dueStory("p-a", 6, 2);
        dueStory(SIXTEEN, 6, 16);
        dueStory("abcdefghijklmno-", 6, 15);
    }

    private static void storyOfNone() {
        Bench.says("-1000: no such ones.");
        Bench b = Bench.of("ab");
        for (int what : new int[] {-1, 7, 8, Integer.MIN_VALUE, Integer.MAX_VALUE}) {
            Bench.due("no such what: " + what, b.x.story(0, what), -1000);
        }
        for (int what = 0; what <= 6; what++) {
            for (int k : new int[] {-1, 1, 7, 8, Integer.MIN_VALUE, Integer.MAX_VALUE}) {
                Bench.due("no such drum: " + k, b.x.story(k, what), -1000);
            }
            Bench.due("the first", b.x.story(0, what) != -1000, true);
        }
        Bench last = new Bench();
        last.drum(7, "ab");
        Bench.due("the last drum", last.x.story(7, 1), 2);
    }

    private static void any() {
        Bench.says("of two told DRUMS (any)");
        Bench b = new Bench();
        b.drum(0, "abc");
        b.drum(7, "cab");
        Bench.due("the first and the last", b.x.same(0, 7, false), 1);
        Bench.due("the last and the first", b.x.same(7, 0, false), 2);
        Bench.due("one with itself", b.x.same(7, 7, false), 0);
        Bench.due("one with itself turned", b.x.same(7, 7, true), -2);
        Bench.due("edits", b.x.edits(7, 0), 0);
        Bench.due("edits with itself", b.x.edits(7, 7), 0);
        Bench.due("common", b.x.common(0, 7), 3);
        Bench.due("common with itself", b.x.common(0, 0), 3);
        Bench.due("twins", b.x.twins(0, 7, 0), 1);
        Bench.due("twins with itself", b.x.twins(7, 7, 0), 0);
        Bench.due("twins with itself", b.x.twins(7, 7, 1), 3);
        for (int k : new int[] {-1, 1, 6, 8, Integer.MIN_VALUE, Integer.MAX_VALUE}) {
            for (int other : new int[] {0, 7, k}) {
                Bench.due("same", b.x.same(k, other, false), -1);
                Bench.due("same", b.x.same(other, k, true), -1);
                Bench.due("edits", b.x.edits(k, other), -1);
                Bench.due("edits", b.x.edits(other, k), -1);
                Bench.due("common", b.x.common(k, other), -1);
                Bench.due("common", b.x.common(other, k), -1);
                Bench.due("twins", b.x.twins(k, other, 0), -1);
                Bench.due("twins", b.x.twins(other, k, 1), -1);
            }
            Bench.due("painted", b.x.painted(k, 1), -1);
        }
    }
}
