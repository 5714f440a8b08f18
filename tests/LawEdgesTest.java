/** The boundary cases of what THE LAW comes to, sentence by sentence. */
public final class LawEdgesTest {
    public static void main(String[] args) {
        framesGone();
        wearGiven();
        firstThatHolds();
        noneHolds();
        backward();
        pardon();
        partsAndTests();
        comparing();
        fromTheLeft();
        theDrum();
        thePicture();
        frames();
        turns();
        wearAtTheSlit();
        paceBefore();
        gaps();
        tickModulo100();
        theDraw();
        thirtyTwoBits();
        dividedByNothing();
        refusedTest();
        refusedAmount();
        asMuchAsMatters();
        Bench.end();
    }

    /** One DRUM of sixteen FRAMES that runs. */
    private static Bench runner() {
        Bench b = Bench.of("abcdefghijklmnop");
        b.orders("0+9");
        return b;
    }

    private static void dueGoes(String law, int want) {
        Bench b = runner();
        Bench.due("law " + law, b.law(law) > 0, true);
        Bench.due("goes by " + law, b.x.tried(1, 2), want);
    }

    private static void dueHolds(String test, boolean want) {
        dueGoes("v7(" + test + ")", want ? 7 : 0);
    }

    private static void dueWorn(String law, int want) {
        Bench b = runner();
        Bench.due("law " + law, b.law(law) > 0, true);
        b.x.ticks(1);
        Bench.due("worn by " + law, b.x.frameIs(0, b.x.drumIs(0, 1), 1), want);
    }

    private static void framesGone() {
        Bench.says("v FRAMES that a DRUM goes in a TICK (0 to 15)");
        for (int v = 0; v <= 15; v++) {
            dueGoes("v" + v + "(1=1)", v);
        }
        dueGoes("v16(1=1)", 15);
        dueGoes("v99999(1=1)", 15);
        dueGoes("v0-1(1=1)", 0);
        dueGoes("v0-99999(1=1)", 0);
        dueGoes("v65536*32767+65535(1=1)", 15);
        dueGoes("v65536*32767+65536(1=1)", 0);
        Bench b = runner();
        b.law("v16(1=1)");
        b.x.ticks(1);
        b.dueDrumIs(0, 16, 15, 9, 15, 15, 0, 15, 0);
    }

    private static void wearGiven() {
        Bench.says("a WEAR of the FRAME then at the slit (0 to 99)");
        int[] given = {0, 1, 98, 99, 100, 99999};
        int[] due = {0, 1, 98, 99, 99, 99};
        for (int i = 0; i < given.length; i++) {
            dueWorn("a" + given[i] + "(1=1)", due[i]);
            dueWorn("v3(1=1);a" + given[i] + "(1=1)", due[i]);
        }
        dueWorn("a0-1(1=1)", 0);
        dueWorn("a65536*32768(1=1)", 0);
        // 0 at least also where there is WEAR already
        Bench b = runner();
        b.law("a40(1=1)");
        b.x.ticks(1);
        b.law("a0-40(1=1)");
        b.x.ticks(1);
        Bench.due("wear", b.x.frameIs(0, 0, 1), 40);
        // of the FRAME then at the slit, not of the one before
        b.law("v2(1=1);a5(1=1)");
        b.x.ticks(1);
        Bench.due("wear", b.x.frameIs(0, 0, 1), 40);
        Bench.due("wear", b.x.frameIs(0, 2, 1), 5);
    }

    private static void firstThatHolds() {
        Bench.says("of the first RULE of v, a whose C holds the E (beyond its bounds the bound");
        dueGoes("v1(1=1);v2(1=1)", 1);
        dueGoes("v1(1=2);v2(1=1);v3(1=1)", 2);
        dueGoes("v0(1=1);v2(1=1)", 0);
        dueGoes("v0-3(1=1);v2(1=1)", 0);
        dueGoes("v99(1=1);v2(1=1)", 15);
        dueGoes("a9(1=1);l(1=1);x(1=1);v4(1=1)", 4);
        dueWorn("a1(1=2);v3(1=1);a2(1=1);a3(1=1)", 2);
        dueWorn("a0(1=1);a3(1=1)", 0);
    }

    private static void noneHolds() {
        Bench.says("of the first RULE of v, a whose C holds the E (beyond its bounds the bound; none: 0)");
        dueGoes("v1(1=2)", 0);
        dueGoes("v1(1=2);v2(2=3)", 0);
        dueGoes("a1(1=1)", 0);
        dueWorn("a1(1=2)", 0);
        dueWorn("v1(1=1)", 0);
    }

    private static void duePosition(String law, int want) {
        Bench b = runner();
        b.law(law);
        Bench.due("position by " + law, b.x.tried(1, 10), want);
    }

    private static void backward() {
        Bench.says("l it goes backward (any will do; without an l in THE LAW it does not)");
        duePosition("v3(1=1)", 3);
        duePosition("v3(1=1);l(1=1)", 13);
        duePosition("l(1=1);v3(1=1)", 13);
        duePosition("v3(1=1);l(1=2)", 3);
        duePosition("v3(1=1);l(1=2);l(1=1)", 13);
        duePosition("v3(1=1);l(1=1);l(1=2)", 13);
        duePosition("v3(1=1);l(1=2);l(1=3)", 3);
        duePosition("v3(1=1);x(1=1)", 3);
        duePosition("v0(1=1);l(1=1)", 0);
    }

    private static void duePardoned(String law, boolean want) {
        Bench b = runner();
        b.law(law);
        Bench.due("pardoned by " + law, b.x.tried(1, 1), want ? 1 : 0);
        Bench.due("running by " + law, b.x.tried(1, 0), want ? 0 : 1);
    }

    private static void pardon() {
        Bench.says("x it is PARDONED (any will do; without an x in THE LAW none is)");
        duePardoned("v1(1=1)", false);
        duePardoned("x(1=1)", true);
        duePardoned("x(1=2)", false);
        duePardoned("x(1=2);x(1=1)", true);
        duePardoned("x(1=1);x(1=2)", true);
        duePardoned("x(1=2);x(1=3)", false);
        duePardoned("l(1=1)", false);
    }

    private static void partsAndTests() {
        Bench.says("C: PARTS with a | between two, one of which must hold; a PART: TESTS with an & between two, all "
                + "of which must");
        for (int bits = 0; bits < 16; bits++) {
            boolean[] t = new boolean[4];
            String[] s = new String[4];
            for (int i = 0; i < 4; i++) {
                t[i] = (bits >> i & 1) == 1;
                s[i] = t[i] ? "1=1" : "1=2";
            }
            dueHolds(s[0] + "|" + s[1] + "|" + s[2] + "|" + s[3], t[0] || t[1] || t[2] || t[3]);
            dueHolds(s[0] + "&" + s[1] + "&" + s[2] + "&" + s[3], t[0] && t[1] && t[2] && t[3]);
            dueHolds(s[0] + "&" + s[1] + "|" + s[2] + "&" + s[3], t[0] && t[1] || t[2] && t[3]);
            dueHolds(s[0] + "|" + s[1] + "&" + s[2] + "|" + s[3], t[0] || t[1] && t[2] || t[3]);
            dueHolds("(" + s[0] + "|" + s[1] + ")&(" + s[2] + "|" + s[3] + ")", (t[0] || t[1]) && (t[2] || t[3]));
            dueHolds("!" + s[0] + "&" + s[1] + "|!(" + s[2] + "|" + s[3] + ")", !t[0] && t[1] || !(t[2] || t[3]));
            dueHolds("!!" + s[0] + "&!(!" + s[1] + "&" + s[2] + ")", t[0] && !(!t[1] && t[2]));
        }
    }

    private static void comparing() {
        Bench.says("a TEST: !TEST, (C), or E, one of < > =, and E");
        int[][] pairs = {{0, 0}, {0, 1}, {1, 0}, {99999, 99999}, {99998, 99999}, {99999, 99998}};
        for (int[] p : pairs) {
            dueHolds(p[0] + "<" + p[1], p[0] < p[1]);
            dueHolds(p[0] + ">" + p[1], p[0] > p[1]);
            dueHolds(p[0] + "=" + p[1], p[0] == p[1]);
        }
        dueHolds("0-1<0", true);
        dueHolds("0-1>0", false);
        dueHolds("0-1=0-1", true);
        dueHolds("65536*32768<0-99999", true);
    }

    private static void fromTheLeft() {
        Bench.says("E: TERMS with + or - between two; a TERM: FACTORS with one of * / % between two; from the left on");
        dueGoes("v9-3-2(1=1)", 4);
        dueGoes("v9-3+2(1=1)", 8);
        dueGoes("v9-[3+2](1=1)", 4);
        dueGoes("v1+2*3(1=1)", 7);
        dueGoes("v2*3+1(1=1)", 7);
        dueGoes("v[1+2]*3(1=1)", 9);
        dueGoes("v24/4/2(1=1)", 3);
        dueGoes("v24/[4/2](1=1)", 12);
        dueGoes("v7/2*2(1=1)", 6);
        dueGoes("v2*7/2(1=1)", 7);
        dueGoes("v17%7*2(1=1)", 6);
        dueGoes("v2*17%7(1=1)", 6);
        dueGoes("v17%[7*2](1=1)", 3);
        dueGoes("v10-2*3+1(1=1)", 5);
        dueGoes("v[[1]](1=1)", 1);
    }

    private static void dueLook(Bench b, String letter, int want) {
        b.law("x(" + letter + "=" + want + ")");
        Bench.due(letter + " is " + want, b.x.tried(1, 1) != 0, true);
        b.law("x(!" + letter + "=" + want + ")");
        Bench.due(letter + " is nothing but " + want, b.x.tried(1, 1), 0);
        b.law("l(1=2)");
    }

    private static void theDrum() {
        Bench.says("k the DRUM");
        for (int k = 0; k <= 7; k++) {
            Bench b = new Bench();
            b.drum(k, "a");
            b.orders(k + "+1");
            dueLook(b, "k", k);
        }
    }

    private static void thePicture() {
        Bench.says("p the PICTURE that shows (a GAP: 16)");
        Bench b = runner();
        dueLook(b, "p", 0);
        b.orders("0@15");
        dueLook(b, "p", 15);
        b.orders("0#15=-");
        dueLook(b, "p", 16);
        Bench worn = runner();
        worn.law("a98(1=1)");
        worn.x.ticks(1);
        dueLook(worn, "p", 0);
        worn.law("a1(1=1)");
        worn.x.ticks(1);
        dueLook(worn, "p", 16);
    }

    private static void frames() {
        Bench.says("n FRAMES");
        Bench b = Bench.of("a");
        b.orders("0+1");
        dueLook(b, "n", 1);
        dueLook(runner(), "n", 16);
    }

    private static void turns() {
        Bench.says("u TURNS LEFT");
        Bench b = Bench.of("abc");
        b.orders("0+1");
        dueLook(b, "u", 1);
        b.orders("0+998");
        dueLook(b, "u", 999);
    }

    private static void wearAtTheSlit() {
        Bench.says("f WEAR of the FRAME at the slit");
        Bench b = runner();
        dueLook(b, "f", 0);
        b.law("a99(1=1)");
        b.x.ticks(1);
        dueLook(b, "f", 99);
        b.orders("0@1");
        dueLook(b, "f", 0);
        b.orders("0@0;0#0=a");
        dueLook(b, "f", 0);
    }

    private static void paceBefore() {
        Bench.says("s PACE of the TICK before");
        Bench b = runner();
        dueLook(b, "s", 0);
        b.law("v15(1=1)");
        b.x.ticks(1);
        dueLook(b, "s", 15);
        // its own PACE of this TICK is not known yet
        b.law("v3(s=15);v2(s=3);v1(s=2)");
        Bench.due("three ticks", b.x.tried(3, 2), 6);
        b.law("a1(1=1)");
        b.x.ticks(1);
        dueLook(b, "s", 0);
    }

    private static void gaps() {
        Bench.says("g how many FRAMES show as GAPS");
        dueLook(runner(), "g", 0);
        Bench b = Bench.of("-a-");
        b.orders("0+9;0@1");
        dueLook(b, "g", 2);
        b.law("a99(1=1)");
        b.x.ticks(1);
        dueLook(b, "g", 3);
        b.law("v1(1=1);a99(1=1)");
        b.x.ticks(1);
        // a GAP that has faded is one
        dueLook(b, "g", 3);
        Bench all = Bench.of("9-7-");
        all.orders("0+1");
        dueLook(all, "g", 16);
    }

    private static void tickModulo100() {
        Bench.says("t THE TICK modulo 100");
        Bench b = runner();
        dueLook(b, "t", 0);
        b.x.ticks(99);
        dueLook(b, "t", 99);
        b.x.ticks(1);
        dueLook(b, "t", 0);
        b.x.ticks(1);
        dueLook(b, "t", 1);
        b.x.ticks(98);
        dueLook(b, "t", 99);
        b.x.ticks(1);
        dueLook(b, "t", 0);
    }

    private static void theDraw() {
        Bench.says("w the DRAW");
        // 25173 X + 13849 modulo 65536, of that the last digit
        int[] seeds = {0, 1, 65535, 7, 32768};
        int[] draws = {9, 2, 2, 8, 7};
        for (int i = 0; i < seeds.length; i++) {
            long x = (25173L * seeds[i] + 13849) % 65536;
            Bench.due("reckoned", x % 10, draws[i]);
            Bench b = runner();
            b.x.seed(seeds[i]);
            dueLook(b, "w", draws[i]);
        }
        // one for all of a TICK
        Bench b = runner();
        b.law("vw(w=2);a2(w=2);l(w=2);x(w=2)");
        b.x.ticks(1);
        b.dueDrumIs(0, 16, 14, 9, 2, 2, 1, 14, 0);
        Bench.due("wear", b.x.frameIs(0, 14, 1), 2);
        Bench.due("X", b.x.count(7), 39022);
    }

    private static void thirtyTwoBits() {
        Bench.says("All is reckoned with 32 bits, as the machine does");
        dueHolds("46340*46340>0", true);
        dueHolds("46341*46341<0", true);
        dueHolds("65536*65536=0", true);
        dueHolds("65536*32767+65535>0", true);
        dueHolds("65536*32767+65535+1<0", true);
        dueHolds("65536*32768<0", true);
        dueHolds("65536*32768-1>0", true);
        dueHolds("65536*32768-1=65536*32767+65535", true);
        dueHolds("65536*32768=0-65536*32768", true);
        dueHolds("65536*32768/[0-1]=65536*32768", true);
        dueHolds("65536*32768%[0-1]=0", true);
        dueHolds("65536*32768*2=0", true);
        // 9999800001 less twice 4294967296
        dueHolds("99999*99999=14098*[99999+1]+65409", true);
    }

    private static void dividedByNothing() {
        Bench.says("what is divided by 0 is REFUSED");
        dueHolds("1/0=0", false);
        dueHolds("1/0<1", false);
        dueHolds("1/0>0", false);
        dueHolds("0/0=0", false);
        dueHolds("1%0=0", false);
        dueHolds("1%0=1", false);
        dueHolds("0%0=0", false);
        dueHolds("1/[1-1]=1", false);
        dueHolds("1/k=1", false);
        dueHolds("1%k=1", false);
        dueHolds("0*[1/0]=0", false);
        dueHolds("0=1/0", false);
        dueHolds("0/1=0", true);
        dueHolds("0%1=0", true);
        dueHolds("7/[0-2]=0-3", true);
        dueHolds("[0-7]/2=0-3", true);
        dueHolds("7%[0-2]=1", true);
        dueHolds("[0-7]%2=0-1", true);
    }

    private static void refusedTest() {
        Bench.says("then the whole C of the RULE does not hold");
        dueGoes("v3(1/0=1);v5(1=1)", 5);
        dueGoes("v3(!1/0=1);v5(1=1)", 5);
        dueGoes("v3(!!1/0=1);v5(1=1)", 5);
        dueGoes("v3(!(1/0=1));v5(1=1)", 5);
        dueGoes("v3(1/0=1|1=1);v5(1=1)", 5);
        dueGoes("v3((1/0=1)|1=1);v5(1=1)", 5);
        dueGoes("v3(!(1/0=1)|1=1);v5(1=1)", 5);
        dueGoes("v3(1=1&1/0=1|1=1);v5(1=1)", 5);
        dueGoes("v3(1=2|1/0=1|1=1);v5(1=1)", 5);
        dueGoes("v3(!(1=1&!1%0=1));v5(1=1)", 5);
        duePosition("v3(1=1);l(1/0=1|1=1)", 3);
        duePosition("v3(1=1);l(1/0=1);l(1=1)", 13);
        duePardoned("x(1/0=1|1=1)", false);
        duePardoned("x(!1/0=1)", false);
        duePardoned("x(1/0=1);x(1=1)", true);
        dueWorn("a3(!1/0=1);a5(1=1)", 5);
    }

    private static void refusedAmount() {
        Bench.says("then the whole C of the RULE does not hold, the E of it is 0");
        dueGoes("v1/0(1=1)", 0);
        dueGoes("v9+1/0(1=1)", 0);
        dueGoes("v9+[1%0](1=1);v5(1=1)", 0);
        dueGoes("v1/0+9(1=1);v5(1=1)", 0);
        dueGoes("v1/0(1=2);v5(1=1)", 5);
        dueGoes("v9-0/0*0(1=1)", 0);
        dueWorn("a9+1/0(1=1);a5(1=1)", 0);
        dueWorn("v1/0(1=1);a5(1=1)", 5);
        // what is REFUSED once is not REFUSED for good
        Bench b = runner();
        b.law("v6/t(1=1)");
        Bench.due("0, 6, 3", b.x.tried(3, 2), 9);
        // nor does it leave anything behind, however often
        b.orders("0+990");
        b.law("v9+1/0(1=2|1=1);v9(1=1)");
        Bench.due("goes in 240", b.x.tried(240, 2), 0);
        b.law("v9(2+1/0=1);a1+1/0(1=1);x(3+1%0=1);l(4=1/0);v3(1=2|1+1=2&k=0)");
        Bench.due("goes in 240", b.x.tried(240, 2), 720);
        Bench.due("where", b.x.tried(240, 10), 0);
        Bench.due("running", b.x.tried(240, 0), 1);
    }

    private static void asMuchAsMatters() {
        Bench.says("Of a C as much is asked, from the left, as matters.");
        dueHolds("1=1|1/0=1", true);
        dueHolds("1=2|1=1|1/0=1", true);
        dueHolds("1=1|1=1&1/0=1", true);
        dueHolds("1=2&1/0=1|1=1", true);
        dueHolds("1=2&1=1&1/0=1|1=1", true);
        dueHolds("1=1&1=2&1/0=1|1=1", true);
        dueHolds("!(1=2&1/0=1)", true);
        dueHolds("(1=1|1/0=1)&1=1", true);
        dueHolds("!1=2|1/0=1", true);
        dueHolds("!1=1&1/0=1|1=1", true);
        dueHolds("1=2&(1=1|1/0=1)|1=1", true);
        dueHolds("1=2|1/0=1", false);
        dueHolds("1=1&1/0=1", false);
        dueHolds("1=2&1/0=1", false);
        dueHolds("1=2|1/0=1|1=1", false);
        dueHolds("(1=2|1/0=1)|1=1", false);
        // both sides of a comparing are asked
        dueHolds("1=1/0|1=1", false);
    }
}
