/** The boundary cases of a DRUM's TEXT and of promise 4, sentence by sentence. */
public final class DrumEdgesTest {
    private static final String PICTURES = "abcdefghijklmnop-";
    private static final String TIMES = "23456789";

    public static void main(String[] args) {
        length();
        tapeTooShort();
        whatStands();
        blanks();
        soManyAlike();
        soManyTimes();
        thirdBracket();
        bracketsSideBySide();
        tooManyFrames();
        whereTheyAreTooMany();
        askedWhenItEnds();
        innerFirst();
        firstFromTheLeft();
        inPlaceOfTheOneBefore();
        theOneBeforeStays();
        notToldStaysSo();
        emptyThen();
        Bench.end();
    }

    private static int read(String text) {
        return new Bench().drum(0, text);
    }

    private static void due(String text, int want) {
        Bench.due("drum " + text, read(text), want);
    }

    private static void dueRow(String text, String row) {
        Bench b = new Bench();
        b.dueDrum(0, text, row.length());
        Bench.due(text, b.row(0), row);
    }

    private static void length() {
        Bench.says("A DRUM is told as a TEXT of at most 60 bytes");
        String most = "((a))".repeat(11);
        due("a", 1);
        due(most + "(bcd)", 14);
        due(most + "(2bc)", 14);
        due(most + "((b)x", -1059);
        due(most + "((bc)", -1060);
        Bench b = new Bench();
        b.text("((a))".repeat(12) + "b");
        Bench.due("61 bytes", b.x.drum(0, 61), -1);
        Bench.due("the tape stays", b.x.count(6), 80);
        Bench.due("60 bytes of it", b.x.drum(0, 60), 12);
        for (int n : new int[] {0, -1, -60, Integer.MIN_VALUE, Integer.MAX_VALUE}) {
            b.text("a");
            Bench.due("no such n: " + n, b.x.drum(0, n), -1);
        }
        Bench.due("told before", b.x.drumIs(0, 0), 12);
    }

    private static void tapeTooShort() {
        Bench.says("NONE: no such ones, it has not so many (the tape stays).");
        Bench b = new Bench();
        Bench.due("an empty tape", b.x.drum(0, 1), -1);
        b.text("((a))((b))((c))((d))");
        Bench.due("one more than it has", b.x.drum(0, 21), -1);
        Bench.due("the tape stays", b.x.count(6), 20);
        Bench.due("all that it has", b.x.drum(0, 20), 4);
        Bench.due("row", b.row(0), "abcd");
        b.text("((a))".repeat(8));
        Bench.due("one more than it has", b.x.drum(0, 41), -1);
        Bench.due("all that it has", b.x.drum(0, 40), 8);
    }

    private static void whatStands() {
        Bench.says("FAULTS, the first from the left: 1 what can't stand there (the end, too)");
        Stands stands = new Stands(DrumEdgesTest::read);
        stands.only("", PICTURES + TIMES + "(");
        stands.only("2", PICTURES + "(");
        stands.only("9", PICTURES + "(");
        stands.orEnd("a", PICTURES + TIMES + "(");
        stands.orEnd("2-", PICTURES + TIMES + "(");
        stands.only("a3", PICTURES + "(");
        stands.only("(", PICTURES + TIMES + "(");
        stands.only("(2", PICTURES + "(");
        stands.only("(a", PICTURES + TIMES + "()");
        stands.only("(a2", PICTURES + "(");
        stands.only("2((", PICTURES + TIMES + "(");
        stands.only("((2", PICTURES + "(");
        stands.only("((a", PICTURES + TIMES + "()");
        stands.only("((a)", PICTURES + TIMES + "()");
        stands.orEnd("(a)", PICTURES + TIMES + "(");
        stands.orEnd("((a))", PICTURES + TIMES + "(");
    }

    private static void blanks() {
        Bench.says("A DRUM is told as a TEXT of at most 60 bytes, no blanks");
        due(" a", -1000);
        due("a ", -1001);
        due("2 a", -1001);
        due("( a)", -1001);
        due("(a )", -1002);
        due("(a) ", -1003);
    }

    private static void soManyAlike() {
        Bench.says("a letter a to p or - (a GAP), ahead of it perhaps a digit 2 to 9 (so many alike)");
        for (int times = 2; times <= 9; times++) {
            dueRow(times + "p", "p".repeat(times));
            dueRow(times + "-a", "-".repeat(times) + "a");
        }
        dueRow("a", "a");
        due("0a", -1000);
        due("1a", -1000);
        due("10a", -1000);
        due("b0a", -1001);
        due("b1a", -1001);
        due("22a", -1001);
        due("2", -1001);
    }

    private static void soManyTimes() {
        Bench.says("or (FRAMES), ahead of it perhaps a digit 2 to 9 (so many times)");
        for (int times = 2; times <= 8; times++) {
            dueRow(times + "(a-)", "a-".repeat(times));
        }
        dueRow("9(a)", "aaaaaaaaa");
        dueRow("(ab)", "ab");
        dueRow("2(2(ab)2c)", "ababccababcc");
        due("0(a)", -1000);
        due("1(a)", -1000);
        due("22(a)", -1001);
        due("()", -1001);
        due("2()", -1002);
        due("(())", -1002);
        due("(a())", -1003);
    }

    private static void thirdBracket() {
        Bench.says("5 a third ( that is open in another one, at it");
        due("(a)", 1);
        due("((a))", 1);
        due("(((a)))", -5002);
        due("(((", -5002);
        due("((2(a)))", -5003);
        due("(a(b(c)))", -5004);
        due("(a)((b)(", -1008);
        due("(a)((b(", -5006);
        due("2(3(4(a)))", -5005);
    }

    private static void bracketsSideBySide() {
        Bench.says("5 a third ( that is open in another one");
        due("(a)(b)(c)(d)", 4);
        due("((a)(b)(c))", 3);
        due("((a))((b))((c))", 3);
        due("(a(b)c(d)e(f))", 6);
    }

    private static void tooManyFrames() {
        Bench.says("6 more than 16 FRAMES");
        due("9a7b", 16);
        due("9a8b", -6002);
        due("abcdefghijklmnop", 16);
        due("abcdefghijklmnop-", -6016);
        due("8(ab)", 16);
        due("9(ab)", -6000);
        due("2(2(4a))", 16);
        due("2(3(3a))", -6000);
        due("4(4a)", 16);
        due("4(5a)", -6000);
        due("9(9(9a))", -6002);
    }

    private static void whereTheyAreTooMany() {
        Bench.says("6 more than 16 FRAMES, at the first byte of what (or its digit) by which they are");
        due("9a7bc", -6004);
        due("9a7b2c", -6004);
        // By the c they are more, which ends ahead of what it stands in.
        due("9a7b(c)", -6005);
        due("9a7b2(c)", -6006);
        due("9a4b2(c-)", -6004);
        due("9a5b2(c-)", -6004);
        due("9a3b2(c-)", 16);
        due("9a6bc2-", -6005);
        due("9a7b-a", -6004);
    }

    private static void askedWhenItEnds() {
        Bench.says("by which they are (asked when it ends");
        due("9a8", -1003);
        due("9a8x", -1003);
        due("9a88", -1003);
        due("9a7b(", -1005);
        due("9a7b(x", -1005);
        due("9(2a", -1004);
        due("9(2ax", -1004);
        due("9(2a)", -6000);
        due("9(2a)x", -6000);
        due("9(2a)(((", -6000);
        due("9((2a)", -1006);
    }

    private static void innerFirst() {
        Bench.says("of an inner one first");
        due("9(9a8b)", -6004);
        due("2(9(2a))", -6002);
        due("2(8(2a))", -6000);
        due("2(7(2a)3b)", -6007);
        due("(9a(8b))", -6004);
        due("9(9(9a9b))", -6006);
    }

    private static void firstFromTheLeft() {
        Bench.says("FAULTS, the first from the left");
        due("x9a9b", -1000);
        due("9a9bx", -6002);
        due("(((x", -5002);
        due("(x((", -1001);
        due("((a)x(((", -1004);
        due("9a9b(((", -6002);
        due("(((9a9b", -5002);
    }

    /** A DRUM that has gone, worn and been PARDONED, so that nothing about it is as at first. */
    private static Bench used() {
        Bench b = Bench.of("abc", "abc");
        b.orders("0+9;0@1;1+9;1@1");
        b.law("v2(1=1);a99(1=1);x(t=1)");
        b.x.ticks(2);
        b.dueDrumIs(0, 3, 2, 8, 1, 2, 1, 16, 2);
        return b;
    }

    private static void inPlaceOfTheOneBefore() {
        Bench.says("In place of the one before: all else as at first.");
        Bench b = used();
        b.dueDrum(0, "-ab", 3);
        b.dueDrumIs(0, 3, 0, 0, 0, 0, 0, 16, 1);
        for (int i = 0; i < 3; i++) {
            Bench.due("wear", b.x.frameIs(0, i, 1), 0);
        }
        b.dueDrumIs(1, 3, 2, 8, 1, 2, 1, 16, 2);
        Bench.due("the tick is not the drum's", b.x.count(0), 2);
        Bench.due("nor is the law", b.x.count(5), 3);
        // fewer FRAMES than before, then more again
        b.dueDrum(0, "b", 1);
        b.dueDrumIs(0, 1, 0, 0, 0, 0, 0, 1, 0);
        Bench.due("no second frame", b.x.frameIs(0, 1, 0), -1);
        b.dueDrum(0, "9c7d", 16);
        Bench.due("row", b.row(0), "cccccccccddddddd");
        for (int i = 0; i < 16; i++) {
            Bench.due("wear", b.x.frameIs(0, i, 1), 0);
        }
        // told anew with the same text
        Bench same = used();
        same.dueDrum(1, "abc", 3);
        same.dueDrumIs(1, 3, 0, 0, 0, 0, 0, 0, 0);
    }

    private static void theOneBeforeStays() {
        Bench.says("how many FRAMES; a FAULT (the one before stays)");
        String[] texts = {"x", "aax", "(((a)))", "9a9b", "dd2", "ddd)"};
        int[] faults = {-1000, -1002, -5002, -6002, -1003, -1003};
        for (int i = 0; i < texts.length; i++) {
            Bench b = used();
            String before = b.state();
            b.dueDrum(0, texts[i], faults[i]);
            Bench.due("nothing is changed by " + texts[i], b.state(), before);
            Bench.due("the tape is empty", b.x.count(6), 0);
        }
    }

    private static void notToldStaysSo() {
        Bench.says("how many FRAMES; a FAULT (the one before stays)");
        Bench b = new Bench();
        b.dueDrum(3, "aaax", -1003);
        Bench.due("not told", b.x.count(1), 0);
        Bench.due("not told", b.x.drumIs(3, 0), -1);
    }

    private static void emptyThen() {
        Bench.says("DRUM k (0 to 7) by the first n bytes of the tape (1 to 60; empty then)");
        Bench b = new Bench();
        b.text("ab" + "c".repeat(250));
        Bench.due("a full tape", b.x.count(6), 260);
        Bench.due("the first two", b.x.drum(7, 2), 2);
        Bench.due("row", b.row(7), "ab");
        Bench.due("the rest is gone, too", b.x.count(6), 0);
        Bench.due("nothing is left", b.x.drum(7, 1), -1);
    }
}
