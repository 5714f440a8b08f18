/** The boundary cases of THE LAW's TEXT and of promise 3, sentence by sentence. */
public final class LawTextEdgesTest {
    private static final String RULES = "valx";
    private static final String FACTOR = "[0123456789kpnufsgtw";
    private static final String TEST = "!([0123456789kpnufsgtw";
    private static final String RECKON = "+-*/%";
    private static final String COMPARE = "<>=";

    public static void main(String[] args) {
        length();
        tapeTooShort();
        noneAtFirst();
        whatStandsInAnAmount();
        whatStandsInATest();
        whatStandsBehindARule();
        blanks();
        onlyC();
        rules();
        ruleTooMany();
        digits();
        sixthDigit();
        sixOpen();
        aSeventh();
        eStandsAhead();
        tillItsTestEnds();
        closedAgain();
        seventhThatCannotStand();
        firstFromTheLeft();
        inPlaceOfTheOneBefore();
        theOneBeforeStays();
        emptyThen();
        Bench.end();
    }

    private static int read(String text) {
        return new Bench().law(text);
    }

    private static void due(String text, int want) {
        Bench.due("law " + text, read(text), want);
    }

    private static void length() {
        Bench.says("THE LAW: a TEXT of at most 240 bytes");
        String most = "v" + "1+".repeat(116) + "1(1=11)";
        Bench.due("its length", most.length(), 240);
        due(most, 1);
        due("x(1=1)", 1);
        due(most.substring(0, 239) + "1", -1240);
        due(most.substring(0, 239) + "x", -1239);
        due("x(" + "1=1&".repeat(59) + "1)", -1239);
        due("x(" + "1=1|".repeat(58) + "11=11)", 1);
        Bench b = new Bench();
        b.text(most + ";");
        Bench.due("241 bytes", b.x.law(241), -1);
        Bench.due("the tape stays", b.x.count(6), 260);
        for (int n : new int[] {0, -1, -240, 260, 261, Integer.MIN_VALUE, Integer.MAX_VALUE}) {
            Bench.due("no such n: " + n, b.x.law(n), -1);
        }
        Bench.due("no law", b.x.count(5), 0);
        Bench.due("240 bytes of it", b.x.law(240), 1);
        Bench.due("a law", b.x.count(5), 1);
    }

    private static void tapeTooShort() {
        Bench.says("NONE: no such n, it has not so many (the tape stays).");
        Bench b = new Bench();
        Bench.due("an empty tape", b.x.law(1), -1);
        b.text("x(1=1);x(1=1);x(1=1)");
        Bench.due("one more than it has", b.x.law(21), -1);
        Bench.due("the tape stays", b.x.count(6), 20);
        Bench.due("no law", b.x.count(5), 0);
        Bench.due("all that it has", b.x.law(20), 3);
        Bench more = new Bench();
        more.text("v" + "1+".repeat(106) + "1(1=11)");
        Bench.due("one more than it has", more.x.law(221), -1);
        Bench.due("all that it has", more.x.law(220), 1);
    }

    private static void noneAtFirst() {
        Bench.says("THE LAW: a TEXT of at most 240 bytes, no blanks (none at first)");
        Bench b = Bench.of("abc");
        Bench.due("no rules", b.x.count(5), 0);
        b.orders("0+9");
        Bench.due("time goes by", b.x.ticks(5), 1);
        b.dueDrumIs(0, 3, 0, 9, 0, 0, 0, 0, 0);
        Bench.due("no wear", b.x.frameIs(0, 0, 1), 0);
        Bench.due("the tick", b.x.count(0), 5);
    }

    private static void whatStandsInAnAmount() {
        Bench.says("FAULTS, the first from the left: 1 what can't stand there (the end, too)");
        Stands stands = new Stands(LawTextEdgesTest::read);
        stands.only("", RULES);
        stands.only("v", FACTOR);
        stands.only("a", FACTOR);
        stands.only("v1", Stands.DIGITS + RECKON + "(");
        // a sixth digit is another FAULT
        stands.only("v12345", Stands.DIGITS + RECKON + "(");
        stands.only("ak", RECKON + "(");
        for (char sign : RECKON.toCharArray()) {
            stands.only("v1" + sign, FACTOR);
        }
        stands.only("v1+k", RECKON + "(");
        stands.only("v[", FACTOR);
        stands.only("v[1", Stands.DIGITS + RECKON + "]");
        stands.only("v[k", RECKON + "]");
        stands.only("v[k*", FACTOR);
        stands.only("v[k]", RECKON + "(");
        stands.only("v[[k]", RECKON + "]");
    }

    private static void whatStandsInATest() {
        Bench.says("FAULTS, the first from the left: 1 what can't stand there (the end, too)");
        Stands stands = new Stands(LawTextEdgesTest::read);
        stands.only("v1(", TEST);
        stands.only("a1(", TEST);
        stands.only("l(", TEST);
        stands.only("x(", TEST);
        stands.only("x(!", TEST);
        stands.only("x((", TEST);
        stands.only("x(1", Stands.DIGITS + RECKON + COMPARE);
        stands.only("x(k", RECKON + COMPARE);
        stands.only("x(k+", FACTOR);
        stands.only("x([", FACTOR);
        stands.only("x([k", RECKON + "]");
        stands.only("x([k]", RECKON + COMPARE);
        for (char sign : COMPARE.toCharArray()) {
            stands.only("x(k" + sign, FACTOR);
        }
        stands.only("x(k=1", Stands.DIGITS + RECKON + "&|)");
        stands.only("x(k=n", RECKON + "&|)");
        stands.only("x(k=n%", FACTOR);
        stands.only("x(k=[n]", RECKON + "&|)");
        stands.only("x(!k=n", RECKON + "&|)");
        stands.only("x(k=n&", TEST);
        stands.only("x(k=n|", TEST);
        stands.only("x((k=n", RECKON + "&|)");
        stands.only("x((k=n)", "&|)");
        stands.only("x(!(k=n)", "&|)");
        stands.only("x((k=n)&", TEST);
    }

    private static void whatStandsBehindARule() {
        Bench.says("RULES (16 at most) with a ; (59) between two");
        Stands stands = new Stands(LawTextEdgesTest::read);
        stands.orEnd("x(k=n)", ";");
        stands.orEnd("v1(k=n)", ";");
        stands.orEnd("x((k=n))", ";");
        stands.only("x(k=n);", RULES);
        stands.only("x(k=n);x", "(");
    }

    private static void blanks() {
        Bench.says("THE LAW: a TEXT of at most 240 bytes, no blanks");
        due(" x(1=1)", -1000);
        due("x (1=1)", -1001);
        due("x( 1=1)", -1002);
        due("x(1 =1)", -1003);
        due("x(1= 1)", -1004);
        due("x(1=1 )", -1005);
        due("x(1=1) ", -1006);
        due("x(1=1); x(1=1)", -1007);
    }

    private static void onlyC() {
        Bench.says("a letter, E, and (C), of l, x only (C)");
        Stands stands = new Stands(LawTextEdgesTest::read);
        stands.only("l", "(");
        stands.only("x", "(");
        due("v(1=1)", -1001);
        due("a(1=1)", -1001);
        due("l1(1=1)", -1001);
        due("x1(1=1)", -1001);
        due("v1", -1002);
        due("v1()", -1003);
        due("l()", -1002);
    }

    private static void rules() {
        Bench.says("RULES (16 at most)");
        for (int n = 1; n <= 16; n++) {
            Bench b = new Bench();
            b.dueLaw("x(1=1);".repeat(n - 1) + "x(1=1)", n);
            Bench.due("rules", b.x.count(5), n);
        }
        // the sixteenth counts
        Bench b = Bench.of("abc");
        b.orders("0+1");
        b.dueLaw("v1(1=2);".repeat(15) + "v2(1=1)", 16);
        Bench.due("goes", b.x.tried(1, 2), 2);
    }

    private static void ruleTooMany() {
        Bench.says("4 a 17th RULE, at its letter (if that can stand there)");
        String sixteen = "x(1=1);".repeat(15) + "x(1=1)";
        for (char letter : RULES.toCharArray()) {
            due(sixteen + ";" + letter, -4112);
            due(sixteen + ";" + letter + "?", -4112);
        }
        due(sixteen + ";x(1=1)", -4112);
        due(sixteen + ";k(1=1)", -1112);
        due(sixteen + ";;", -1112);
        due(sixteen + ";", -1112);
        due(sixteen + "x", -1111);
        due("y(1=1);" + sixteen + ";x(1=1)", -1000);
    }

    private static void digits() {
        Bench.says("a FACTOR: [E], a number of one to five digits");
        due("v1(1=1)", 1);
        due("v12345(1=1)", 1);
        due("v99999(1=99999)", 1);
        due("v00000(00000=0)", 1);
        Bench b = Bench.of("abc");
        b.orders("0+1");
        b.law("v2(99999=100000/1)");
        Bench.due("the one before", b.x.count(5), 0);
        b.dueLaw("v2(99999-9999=90000&00012=12)", 1);
        Bench.due("all five count", b.x.tried(1, 2), 2);
    }

    private static void sixthDigit() {
        Bench.says("2 a sixth digit, at it");
        due("v123456(1=1)", -2006);
        due("v000000(1=1)", -2006);
        due("v1234567", -2006);
        due("v1+123456", -2008);
        due("x(123456=1)", -2007);
        due("x(1=123456", -2009);
        due("x(1=1);a[999999", -2014);
        due("v12345k", -1006);
    }

    /** All that can be opened one in another behind the letter x, the ( of the RULE counting as the first. */
    private static void open(String opened, int more) {
        if (more == 0) {
            Bench.due("sound: " + opened, read(closed(opened)), 1);
            String next = opened.endsWith("[") ? "[" : "(![";
            for (char sign : next.toCharArray()) {
                due(opened + sign, -5007);
                due(opened + sign + "x", -5007);
            }
            return;
        }
        if (!opened.endsWith("[")) {
            open(opened + "(", more - 1);
            open(opened + "!", more - 1);
        }
        open(opened + "[", more - 1);
    }

    private static String closed(String opened) {
        StringBuilder s = new StringBuilder(opened).append('1');
        boolean compared = false;
        for (int i = opened.length() - 1; i > 0; i--) {
            char sign = opened.charAt(i);
            if (sign == '[') {
                s.append(']');
            } else {
                s.append(compared ? "" : "=1").append(sign == '(' ? ")" : "");
                compared = true;
            }
        }
        return s.toString();
    }

    private static void sixOpen() {
        Bench.says("5 a seventh of ( [ ! that are open in one another, at it (the ( of the RULE counts");
        open("x(", 5);
        due("x((((((1=1))))))", 1);
        due("x(((((((1=1)))))))", -5007);
        due("x(!!!!!1=1)", 1);
        due("x(!!!!!!1=1)", -5007);
        due("x([[[[[1]]]]]=1)", 1);
        due("x([[[[[[1]]]]]]=1)", -5007);
        due("x(1=[[[[[1]]]]])", 1);
        due("x(1=[[[[[[1]]]]]])", -5009);
        due("l((((((1=1))))))", 1);
        due("l(((((((1=1)))))))", -5007);
    }

    private static void aSeventh() {
        Bench.says("5 a seventh of ( [ ! that are open in one another, at it");
        due("x(1=1|(((((1=1&!", -5015);
        due("x(!(!([1+[2", -5009);
        due("x(1=1);x(((((((", -5014);
    }

    private static void eStandsAhead() {
        Bench.says("the E of a RULE stands ahead of it");
        for (char letter : "va".toCharArray()) {
            due(letter + "[[[[[[1]]]]]](1=1)", 1);
            due(letter + "[[[[[[[1]]]]]]](1=1)", -5007);
            due(letter + "1+[[[[[[1]]]]]](1=1)", 1);
            due(letter + "1+[[[[[[[1", -5009);
            due(letter + "[[[[[[1]]]]]]((((((1=1))))))", 1);
            due(letter + "1((((((1=1))))))", 1);
            due(letter + "1(((((((1=1)))))))", -5008);
            due(letter + "[[[[[[1]]]]]](((((((1", -5020);
        }
    }

    private static void tillItsTestEnds() {
        Bench.says("a ! is open till its TEST ends");
        due("x(!!!!!1=1&!!!!!1=1|!!!!!1=1)", 1);
        due("x(!!!!1=[1])", 1);
        due("x(!!!!1=[[1]])", -5009);
        due("x(!!!!1=1&1=[[[[[1]]]]])", 1);
        due("x(!!!!(1=1&1=1))", 1);
        due("x(!!!!(1=1&!1=1))", -5011);
        due("x(!!!!(1=1)&!!!!!1=1)", 1);
        due("x(!!!(!1=1&!1=1))", 1);
        due("x(!!!(!1=1&!!1=1))", -5012);
    }

    private static void closedAgain() {
        Bench.says("5 a seventh of ( [ ! that are open in one another");
        due("x((1=1)&(1=1)&(1=1)&(1=1)&(1=1)&(1=1)&(1=1))", 1);
        due("v[1]+[1]+[1]+[1]+[1]+[1]+[1]+[1](1=1)", 1);
        due("x(!1=1&!1=1&!1=1&!1=1&!1=1&!1=1&!1=1)", 1);
        due("x(((((1=1)))))", 1);
        due("x(((((1=1))))))", -1014);
        due("x(((((1=1))))&((((((1=1", -5019);
    }

    private static void seventhThatCannotStand() {
        Bench.says("1 what can't stand there (the end, too); 2 a sixth digit, at it; 4 a 17th RULE");
        due("x((((((1(", -1008);
        due("x((((((1=(", -1009);
        due("x((((((1=!", -1009);
        due("x((((((1[", -1008);
        due("v[[[[[[(", -1007);
        due("v[[[[[[!", -1007);
        due("v[[[[[[1[", -1008);
    }

    private static void firstFromTheLeft() {
        Bench.says("FAULTS, the first from the left");
        due("x(1=123456&((((((((", -2009);
        due("x(((((((123456", -5007);
        due("y(1=123456", -1000);
        due("x(1=1)x(1=123456", -1006);
    }

    private static Bench lawful() {
        Bench b = Bench.of("abcde");
        b.orders("0+9");
        b.law("v3(1=1);a7(1=1)");
        return b;
    }

    private static void inPlaceOfTheOneBefore() {
        Bench.says("in place of the one before: how many RULES");
        Bench b = lawful();
        b.dueLaw("v1(1=1)", 1);
        Bench.due("rules", b.x.count(5), 1);
        b.x.ticks(1);
        b.dueDrumIs(0, 5, 1, 9, 1, 1, 0, 1, 0);
        Bench.due("no wear any more", b.x.frameIs(0, 1, 1), 0);
        b.dueLaw("l(1=1);x(1=2);a1(1=1)", 3);
        Bench.due("rules", b.x.count(5), 3);
        Bench.due("goes no more", b.x.tried(1, 2), 0);
    }

    private static void theOneBeforeStays() {
        Bench.says("a FAULT: -1000 times its number, less its place (the one before stays)");
        String[] texts = {"v1(1=1);y", "v1(1=1);v123456", "l(1=1);".repeat(16) + "l(1=1)", "v1(1=1);x(((((((", "v"};
        int[] faults = {-1008, -2014, -4112, -5015, -1001};
        for (int i = 0; i < texts.length; i++) {
            Bench b = lawful();
            b.dueLaw(texts[i], faults[i]);
            Bench.due("the tape is empty", b.x.count(6), 0);
            Bench.due("rules", b.x.count(5), 2);
            b.x.ticks(1);
            b.dueDrumIs(0, 5, 3, 9, 3, 3, 0, 3, 0);
            Bench.due("wear", b.x.frameIs(0, 3, 1), 7);
            // twice, since what was begun may lie about
            b.dueLaw(texts[i], faults[i]);
            Bench.due("goes", b.x.tried(1, 2), 3);
        }
        Bench none = new Bench();
        none.dueLaw("v1(1=1);y", -1008);
        Bench.due("none before", none.x.count(5), 0);
    }

    private static void emptyThen() {
        Bench.says("THE LAW by the first n bytes of the tape (1 to 240; empty then)");
        Bench b = new Bench();
        b.text("x(1=1);y" + "z".repeat(250));
        Bench.due("a full tape", b.x.count(6), 260);
        Bench.due("the first six", b.x.law(6), 1);
        Bench.due("the rest is gone, too", b.x.count(6), 0);
        Bench.due("nothing is left", b.x.law(1), -1);
    }
}
