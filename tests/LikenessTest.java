/** Promises 13 to 18: same, story, painted, edits, common, twins. */
public final class LikenessTest {
    public static void main(String[] args) {
        same();
        story();
        painted();
        edits();
        common();
        twins();
        asTold();
        refused();
        Bench.end();
    }

    private static Bench of(String... drums) {
        Bench b = new Bench();
        for (int k = 0; k < drums.length; k++) {
            b.dueDrum(k, drums[k], drums[k].length());
        }
        return b;
    }

    private static void dueSame(String first, String second, int want, int wantTurned) {
        Bench b = of(first, second);
        Bench.due("same " + first + " " + second, b.x.same(0, 1, false), want);
        Bench.due("turned " + first + " " + second, b.x.same(0, 1, true), wantTurned);
    }

    private static void same() {
        dueSame("abcd", "abcd", 0, -2);
        dueSame("abcd", "cdab", 2, -2);
        dueSame("abcd", "bcda", 3, -2);
        dueSame("abcd", "dcba", -2, 3);
        dueSame("abcd", "badc", -2, 1);
        dueSame("abab", "baba", 1, 1);
        dueSame("aaa", "aaa", 0, 0);
        dueSame("a", "b", -2, -2);
        dueSame("a-b", "-ba", 2, -2);
        dueSame("a-b", "b-a", -2, 2);
        dueSame("ab", "abab", -2, -2);
        Bench b = of("ab");
        Bench.due("with itself", b.x.same(0, 0, false), 0);
        Bench.due("with itself turned", b.x.same(0, 0, true), 0);
    }

    private static void dueStory(String drum, int... want) {
        Bench b = of(drum);
        for (int what = 0; what < want.length; what++) {
            Bench.due("story " + drum + " " + what, b.x.story(0, what), want[what]);
        }
    }

    /** LEAST, PERIOD, MIRROR, FORWARD, RUN of no GAPS, of GAPS, unlike PICTURES. */
    private static void story() {
        dueStory("a", 0, 1, 0, 0, 1, 0, 1);
        dueStory("-", 0, 1, 0, 0, 0, 1, 0);
        dueStory("ba", 1, 2, 1, 0, 2, 0, 2);
        dueStory("bb", 0, 1, 0, 0, 2, 0, 1);
        dueStory("-a", 1, 2, 1, 0, 1, 1, 1);
        dueStory("baba", 1, 2, 2, 0, 4, 0, 2);
        dueStory("aabb", 0, 4, 0, 0, 4, 0, 2);
        dueStory("abba", 3, 4, 0, 0, 4, 0, 2);
        dueStory("abc", 0, 3, 1, 0, 3, 0, 3);
        dueStory("aba", 2, 3, 0, 0, 3, 0, 2);
        dueStory("abcd", 0, 4, 2, 0, 4, 0, 4);
        // each step counts by the shorter way round the dial: f back to a is 5 back
        dueStory("cbaaf", 2, 5, 1, -1 - 1 + 0 + 5 - 3, 5, 0, 4);
        // by 8: neither
        dueStory("ai", 0, 2, 1, 0, 2, 0, 2);
        // by 9 it is 7 back, by 7 forward
        dueStory("aj", 0, 2, 1, 0, 2, 0, 2);
        dueStory("afkp", 0, 4, 2, 5 + 5 + 5 + 1, 4, 0, 4);
        dueStory("apkf", 0, 4, 2, -1 - 5 - 5 - 5, 4, 0, 4);
        dueStory("ab-cd", 0, 5, 2, 1 + 1 - 3, 4, 1, 4);
        dueStory("--a-", 2, 4, 1, 0, 1, 3, 1);
        dueStory("b--a-a", 5, 6, 2, 1, 2, 2, 2);
        dueStory("abcabcabcabc", 0, 3, 4, 0, 12, 0, 3);
    }

    private static void painted() {
        Bench b = of("abcabd", "a-a-bb", "aaaa", "abcdefghijklmnop", "a");
        Bench.due("painted", b.x.painted(0, 6), 0);
        Bench.due("painted", b.x.painted(0, 3), 1);
        Bench.due("painted", b.x.painted(0, 2), 4);
        Bench.due("painted", b.x.painted(0, 1), 4);
        Bench.due("no divisor", b.x.painted(0, 4), -2);
        Bench.due("no divisor", b.x.painted(0, 5), -2);
        Bench.due("no divisor", b.x.painted(0, 7), -2);
        Bench.due("no divisor", b.x.painted(0, 12), -2);
        Bench.due("no divisor", b.x.painted(0, 16), -2);
        Bench.due("gaps count", b.x.painted(1, 2), 2);
        Bench.due("gaps count", b.x.painted(1, 3), 3);
        Bench.due("gaps count", b.x.painted(1, 1), 4);
        Bench.due("painted", b.x.painted(2, 1), 0);
        Bench.due("painted", b.x.painted(3, 1), 15);
        Bench.due("painted", b.x.painted(3, 8), 8);
        Bench.due("painted", b.x.painted(3, 16), 0);
        Bench.due("painted", b.x.painted(4, 1), 0);
        Bench.due("no such d", b.x.painted(0, 0), -1);
        Bench.due("no such d", b.x.painted(0, 17), -1);
        Bench.due("no such d", b.x.painted(0, -6), -1);
    }

    private static void dueEdits(String first, String second, int want) {
        Bench b = of(first, second);
        Bench.due("edits " + first + " " + second, b.x.edits(0, 1), want);
        Bench.due("edits " + second + " " + first, b.x.edits(1, 0), want);
    }

    private static void edits() {
        dueEdits("abc", "abc", 0);
        dueEdits("abc", "cab", 0);
        dueEdits("abc", "cba", 2);
        dueEdits("abcd", "dab", 1);
        dueEdits("abcd", "bd", 2);
        dueEdits("a", "b", 1);
        dueEdits("a", "-", 1);
        dueEdits("a", "bcdefghi", 8);
        dueEdits("aaaaaaaa", "a", 7);
        dueEdits("abcdefghijklmnop", "ponmlkjihgfedcba", 14);
        dueEdits("ab-ab-", "-ab-", 2);
        dueEdits("ab-ab-", "-ba-ba", 4);
        Bench b = of("ab");
        Bench.due("with itself", b.x.edits(0, 0), 0);
    }

    private static void dueCommon(String first, String second, int want) {
        Bench b = of(first, second);
        Bench.due("common " + first + " " + second, b.x.common(0, 1), want);
        Bench.due("common " + second + " " + first, b.x.common(1, 0), want);
    }

    private static void common() {
        dueCommon("abc", "abc", 3);
        dueCommon("abc", "bca", 3);
        dueCommon("abc", "cba", 1);
        dueCommon("abc", "def", 0);
        dueCommon("abcd", "pda", 2);
        dueCommon("aa", "aaaaa", 2);
        dueCommon("a", "aaaaa", 1);
        dueCommon("ab", "abab", 2);
        dueCommon("a--b", "c--d", 2);
        dueCommon("-", "a", 0);
        Bench b = of("abc");
        Bench.due("with itself", b.x.common(0, 0), 3);
    }

    private static void dueTwins(String first, String second, int turn, int many) {
        Bench b = of(first, second);
        Bench.due("twins " + first + " " + second, b.x.twins(0, 1, 0), turn);
        Bench.due("twins' number " + first + " " + second, b.x.twins(0, 1, 1), many);
    }

    private static void twins() {
        dueTwins("abcd", "abcd", 0, 4);
        dueTwins("abcd", "dabc", 1, 4);
        dueTwins("abcd", "bcda", 3, 4);
        dueTwins("abcd", "efgh", 0, 0);
        dueTwins("abab", "baba", 1, 4);
        dueTwins("ab-d", "cab-", 1, 3);
        dueTwins("abc", "cba", 0, 1);
        dueTwins("a", "b", 0, 0);
        dueTwins("ab", "abc", -2, -2);
        Bench b = of("ab", "abc");
        Bench.due("with itself", b.x.twins(1, 1, 1), 3);
        Bench.due("no such what", b.x.twins(0, 1, 2), -1);
        Bench.due("no such what", b.x.twins(0, 0, -1), -1);
    }

    /** WEAR and POSITION are no matter, paint is. */
    private static void asTold() {
        Bench b = of("ab", "ab");
        b.orders("0+9;0@1");
        b.law("a99(1=1)");
        b.x.ticks(1);
        Bench.due("shows a gap", b.x.drumIs(0, 6), 16);
        Bench.due("same", b.x.same(0, 1, false), 0);
        Bench.due("run", b.x.story(0, 4), 2);
        Bench.due("edits", b.x.edits(0, 1), 0);
        Bench.due("common", b.x.common(0, 1), 2);
        Bench.due("twins", b.x.twins(0, 1, 1), 2);
        b.orders("0#1=-");
        Bench.due("same", b.x.same(0, 1, false), -2);
        Bench.due("run", b.x.story(0, 4), 1);
        Bench.due("painted", b.x.painted(0, 1), 1);
        Bench.due("edits", b.x.edits(0, 1), 1);
        Bench.due("common", b.x.common(0, 1), 1);
        Bench.due("twins", b.x.twins(0, 1, 1), 1);
    }

    private static void refused() {
        Bench b = of("ab");
        for (int k : new int[] {-1, 1, 7, 8, Integer.MAX_VALUE, Integer.MIN_VALUE}) {
            Bench.due("same", b.x.same(0, k, false), -1);
            Bench.due("same", b.x.same(k, 0, true), -1);
            Bench.due("story", b.x.story(k, 0), -1000);
            Bench.due("painted", b.x.painted(k, 1), -1);
            Bench.due("edits", b.x.edits(0, k), -1);
            Bench.due("edits", b.x.edits(k, 0), -1);
            Bench.due("common", b.x.common(0, k), -1);
            Bench.due("common", b.x.common(k, 0), -1);
            Bench.due("twins", b.x.twins(0, k, 0), -1);
            Bench.due("twins", b.x.twins(k, 0, 0), -1);
        }
        Bench.due("story", b.x.story(0, -1), -1000);
        Bench.due("story", b.x.story(0, 7), -1000);
    }
}
