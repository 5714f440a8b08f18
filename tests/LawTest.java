/** Promise 3: law; how it is read, and what it comes to in a TICK. */
public final class LawTest {
    public static void main(String[] args) {
        faults();
        depth();
        numbersOfRules();
        amounts();
        tests();
        refused();
        letters();
        otherRules();
        stays();
        Bench.end();
    }

    private static void faults() {
        Bench b = new Bench();
        b.dueLaw("v1(1=1)", 1);
        b.dueLaw("k1(1=1)", -1000);
        b.dueLaw("V1(1=1)", -1000);
        b.dueLaw(";v1(1=1)", -1000);
        b.dueLaw("v", -1001);
        b.dueLaw("v(1=1)", -1001);
        b.dueLaw("v-1(1=1)", -1001);
        b.dueLaw("v!1(1=1)", -1001);
        b.dueLaw("va(1=1)", -1001);
        b.dueLaw("v1", -1002);
        b.dueLaw("v1;", -1002);
        b.dueLaw("v1=1(1=1)", -1002);
        b.dueLaw("v1)", -1002);
        b.dueLaw("v1]", -1002);
        b.dueLaw("vk2(1=1)", -1002);
        b.dueLaw("v1k(1=1)", -1002);
        b.dueLaw("v1+(1=1)", -1003);
        b.dueLaw("v1+", -1003);
        b.dueLaw("v1+*2(1=1)", -1003);
        b.dueLaw("v[1", -1003);
        b.dueLaw("v[1(1=1)", -1003);
        b.dueLaw("v[](1=1)", -1002);
        b.dueLaw("v[1=1](1=1)", -1003);
        b.dueLaw("v1(", -1003);
        b.dueLaw("v1()", -1003);
        b.dueLaw("v1(1)", -1004);
        b.dueLaw("v1(1&1=1)", -1004);
        b.dueLaw("v1(1=)", -1005);
        b.dueLaw("v1(1=1=1)", -1006);
        b.dueLaw("v1(1=1", -1006);
        b.dueLaw("v1(1=1]", -1006);
        b.dueLaw("v1(1=1&)", -1007);
        b.dueLaw("v1(1=1|)", -1007);
        b.dueLaw("v1(1=1&&1=1)", -1007);
        b.dueLaw("v1((1+1)=2)", -1007);
        b.dueLaw("v1(!)", -1004);
        b.dueLaw("v1(!1)", -1005);
        b.dueLaw("v1((1=1)", -1008);
        b.dueLaw("v1((1=1)(1=1))", -1008);
        b.dueLaw("v1(1=1)v1(1=1)", -1007);
        b.dueLaw("v1(1=1))", -1007);
        b.dueLaw("v1(1=1);", -1008);
        b.dueLaw("v1(1=1);;", -1008);
        b.dueLaw("v1(1=1) ", -1007);
        b.dueLaw("l1(1=1)", -1001);
        b.dueLaw("x1(1=1)", -1001);
        b.dueLaw("l", -1001);
        b.dueLaw("x()", -1002);
        b.dueLaw("v12345(1=1)", 1);
        b.dueLaw("v123456(1=1)", -2006);
        b.dueLaw("v000000(1=1)", -2006);
        b.dueLaw("x(1=00000)", 1);
        b.dueLaw("x(1=000001)", -2009);
        b.dueLaw("x(1=1000001)", -2009);
        Bench.due("rules", b.x.count(5), 1);
    }

    private static void depth() {
        Bench b = new Bench();
        b.dueLaw("x((((((1=1))))))", 1);
        b.dueLaw("x(((((((1=1)))))))", -5007);
        b.dueLaw("x(!!!!!1=1)", 1);
        b.dueLaw("x(!!!!!!1=1)", -5007);
        b.dueLaw("x([[[[[1]]]]]=1)", 1);
        b.dueLaw("x([[[[[[1]]]]]]=1)", -5007);
        b.dueLaw("x(1=[[[[[[1", -5009);
        b.dueLaw("v[[[[[[1]]]]]](1=1)", 1);
        b.dueLaw("v[[[[[[[1]]]]]]](1=1)", -5007);
        b.dueLaw("v[[[[[[1]]]]]]((((((1=1))))))", 1);
        b.dueLaw("x(!(![!k=1", -1006);
        b.dueLaw("x(!(!([1]=1)))", 1);
        b.dueLaw("x(!(!([[1]]=1)))", -5007);
        // A ! is open till its TEST ends, and no longer.
        b.dueLaw("x(!!!!!1=1&!!!!!1=1|!!!!!1=1)", 1);
        b.dueLaw("x(!!!!1=[1]&[[[[[1]]]]]=1)", 1);
        b.dueLaw("x(!!!!1=[[1]])", -5009);
        b.dueLaw("x(((((!1=1&!1=1)))))", 1);
        // Where none can stand, it is only misplaced.
        b.dueLaw("x((((((1(", -1008);
        b.dueLaw("x((((((1=(", -1009);
        b.dueLaw("x((((((1=!", -1009);
        b.dueLaw("v[[[[[[(", -1007);
        b.dueLaw("v[[[[[[!", -1007);
    }

    private static void numbersOfRules() {
        Bench b = new Bench();
        String sixteen = "l(1=1);".repeat(15) + "x(1=1)";
        b.dueLaw(sixteen, 16);
        Bench.due("rules", b.x.count(5), 16);
        b.dueLaw(sixteen + ";v", -4112);
        b.dueLaw(sixteen + ";x(1=1)", -4112);
        b.dueLaw(sixteen + ";k", -1112);
        b.dueLaw(sixteen + ";", -1112);
        b.dueLaw(sixteen + "x", -1111);
        Bench.due("rules", b.x.count(5), 16);
        String most = "v" + "1+".repeat(116) + "1(1=1)";
        Bench.due("long", most.length(), 239);
        b.dueLaw(most, 1);
        b.dueLaw("v" + "1+".repeat(116) + "1(1=10)", 1);
        b.dueLaw("v" + "1+".repeat(117) + "1(1=1)", -1);
        Bench.due("tape stays", b.x.count(6), 260);
        Bench.due("no such n", b.x.law(241), -1);
        Bench.due("no such n", b.x.law(0), -1);
        Bench.due("tape stays", b.x.count(6), 260);
    }

    /** How many FRAMES one DRUM of 16 goes in the first TICK. */
    private static int goes(String law) {
        Bench b = new Bench();
        b.drum(0, "9a7b");
        b.orders("0+9");
        Bench.due("law " + law, b.law(law) > 0, true);
        return b.x.tried(1, 2);
    }

    private static void dueGoes(String law, int want) {
        Bench.due("goes by " + law, goes(law), want);
    }

    private static void amounts() {
        dueGoes("v7(1=1)", 7);
        dueGoes("v1+2*3(1=1)", 7);
        dueGoes("v2*3+1(1=1)", 7);
        dueGoes("v[1+2]*3(1=1)", 9);
        dueGoes("v9-3-2(1=1)", 4);
        dueGoes("v9-[3-2](1=1)", 8);
        dueGoes("v9-3+2(1=1)", 8);
        dueGoes("v40/3/2(1=1)", 6);
        dueGoes("v17%7*2(1=1)", 6);
        dueGoes("v2*17%7(1=1)", 6);
        dueGoes("v7/2*2(1=1)", 6);
        dueGoes("v15(1=1)", 15);
        dueGoes("v16(1=1)", 15);
        dueGoes("v99999(1=1)", 15);
        dueGoes("v0-1(1=1)", 0);
        dueGoes("v99999*30000(1=1)", 0);
        dueGoes("v10+[0-7]/2(1=1)", 7);
        dueGoes("v10+[0-7]%3(1=1)", 9);
        dueGoes("v10+7%[0-3](1=1)", 11);
        dueGoes("v3([32768*65536]/[0-1]=32768*65536)", 3);
        dueGoes("v3([32768*65536]%[0-1]=0)", 3);
        dueGoes("v3(32768*65536-1>0)", 3);
        dueGoes("v3(99999*30000<0)", 3);
        // the first RULE whose C holds, whatever its E is
        dueGoes("v3(1=2);v4(1=1);v5(1=1)", 4);
        dueGoes("v0-5(1=1);v5(1=1)", 0);
        dueGoes("a5(1=1);x(1=1);l(1=1);v6(1=1)", 6);
        dueGoes("v3(1=2)", 0);
        dueGoes("a3(1=1)", 0);
    }

    private static void tests() {
        dueGoes("v3(1<2)", 3);
        dueGoes("v3(2<2)", 0);
        dueGoes("v3(2>1)", 3);
        dueGoes("v3(2>2)", 0);
        dueGoes("v3(2=2)", 3);
        dueGoes("v3(1=2)", 0);
        dueGoes("v3(0-1<0)", 3);
        dueGoes("v3(1+1*2=3)", 3);
        dueGoes("v3(!1=2)", 3);
        dueGoes("v3(!1=1)", 0);
        dueGoes("v3(!!1=1)", 3);
        dueGoes("v3(1=1&1=2)", 0);
        dueGoes("v3(1=1&2=2&3=3)", 3);
        dueGoes("v3(1=1&2=2&3=4)", 0);
        dueGoes("v3(1=2|1=1)", 3);
        dueGoes("v3(1=2|1=3|1=4)", 0);
        dueGoes("v3(1=1|1=1&1=2)", 3);
        dueGoes("v3(1=2&1=1|1=1)", 3);
        dueGoes("v3((1=1|1=1)&1=2)", 0);
        dueGoes("v3(1=1&(1=2|1=1))", 3);
        dueGoes("v3(!1=2&1=2)", 0);
        dueGoes("v3(!(1=2&1=2))", 3);
        dueGoes("v3(!(1=1|1=2))", 0);
        dueGoes("v3(!1=1|1=1)", 3);
    }

    private static void refused() {
        dueGoes("v1/0(1=1);v5(1=1)", 0);
        dueGoes("v1%0(1=1);v5(1=1)", 0);
        dueGoes("v9+1/0*0(1=1);v5(1=1)", 0);
        dueGoes("v0/[3-3](1=1);v5(1=1)", 0);
        dueGoes("v3(1/0=1);v5(1=1)", 5);
        dueGoes("v3(1%0=0);v5(1=1)", 5);
        dueGoes("v3(!1/0=1);v5(1=1)", 5);
        dueGoes("v3(!(1=1&1/0=1));v5(1=1)", 5);
        dueGoes("v3(1/0=1|1=1);v5(1=1)", 5);
        dueGoes("v3((1/0=1)|1=1);v5(1=1)", 5);
        dueGoes("v3(1=1&1/0=1|1=1);v5(1=1)", 5);
        // only as much as matters is asked
        dueGoes("v3(1=1|1/0=1);v5(1=1)", 3);
        dueGoes("v3(1=2&1/0=1|1=1);v5(1=1)", 3);
        dueGoes("v3(1=2&1=1&1/0=1|1=1);v5(1=1)", 3);
        dueGoes("v3(!(1=2&1/0=1));v5(1=1)", 3);
        dueGoes("v3(1=2|1=1|1/0=1);v5(1=1)", 3);
        dueGoes("v3((1=1|1/0=1)&1=1);v5(1=1)", 3);
        // the same of what only needs (C)
        Bench b = new Bench();
        b.drum(0, "abcd");
        b.orders("0+9");
        b.law("v1(1=1);l(1/0=1|1=1);x(1/0=1|1=1)");
        Bench.due("no l", b.x.tried(1, 10), 1);
        Bench.due("no x", b.x.tried(1, 1), 0);
        b.law("v1(1=1);l(1/0=1);l(1=1);x(1/0=1);x(1=1)");
        Bench.due("another l", b.x.tried(1, 10), 3);
        Bench.due("another x", b.x.tried(1, 1), 1);
    }

    /** A DRUM with all that can be looked at unlike: 3, shows e, 7 FRAMES, 9 TURNS, WEAR 5, PACE 4, 2 GAPS. */
    private static Bench looked() {
        Bench b = new Bench();
        b.drum(3, "abc-e-g");
        b.orders("3+9");
        b.law("v4(1=1);a5(1=1)");
        b.x.ticks(1);
        return b;
    }

    private static void dueLooked(String letter, int want) {
        Bench b = looked();
        b.law("x(" + letter + "=" + want + ")");
        Bench.due(letter + " is " + want, b.x.tried(1, 1), 8);
    }

    private static void letters() {
        dueLooked("k", 3);
        dueLooked("p", 4);
        dueLooked("n", 7);
        dueLooked("u", 9);
        dueLooked("f", 5);
        dueLooked("s", 4);
        dueLooked("g", 2);
        dueLooked("t", 1);
        // X is 39022, then 61087
        dueLooked("w", 7);

        Bench gap = looked();
        gap.orders("3@3");
        gap.law("x(p=16)");
        Bench.due("a gap is 16", gap.x.tried(1, 1), 8);

        Bench faded = looked();
        faded.law("a99(1=1)");
        faded.x.ticks(1);
        faded.law("x(p=16&f=99&g=3)");
        Bench.due("faded shows as a gap", faded.x.tried(1, 1), 8);

        Bench hundred = new Bench();
        hundred.drum(0, "ab");
        hundred.orders("0+9");
        hundred.law("v1(t=5)");
        Bench.due("the tick modulo 100", hundred.x.tried(240, 2), 3);
        Bench.due("the tick modulo 100", hundred.x.tried(205, 2), 2);
        Bench.due("the tick modulo 100", hundred.x.tried(206, 2), 3);
    }

    private static void otherRules() {
        Bench b = new Bench();
        b.drum(0, "abcde");
        b.orders("0+9");
        b.law("v2(1=1);l(1=2);l(1=1)");
        Bench.due("any l", b.x.tried(1, 10), 3);
        b.law("v2(1=1);x(1=2)");
        Bench.due("no l", b.x.tried(1, 10), 2);
        Bench.due("no x holds", b.x.tried(1, 1), 0);
        b.law("x(1=2);x(1=1)");
        Bench.due("any x", b.x.tried(1, 1), 1);
        b.law("a40+60(1=2);a30+3(1=1);a9(1=1);v1(1=1)");
        b.x.ticks(1);
        Bench.due("wear of the frame then at the slit", b.x.frameIs(0, 1, 1), 33);
        Bench.due("not of the one before", b.x.frameIs(0, 0, 1), 0);
        b.law("a0-9(1=1)");
        b.x.ticks(1);
        Bench.due("0 at least", b.x.frameIs(0, 1, 1), 33);
        b.law("a999(1=1)");
        b.x.ticks(1);
        Bench.due("99 at most", b.x.frameIs(0, 1, 1), 99);
        // all is asked ahead of going
        b.orders("0@0");
        b.law("v1(p=0);a7(p=0);l(p=4);x(p=1)");
        b.x.ticks(1);
        Bench.due("position", b.x.drumIs(0, 1), 1);
        Bench.due("not pardoned by what it sees then", b.x.drumIs(0, 5), 0);
    }

    private static void stays() {
        Bench b = new Bench();
        b.drum(0, "abcde");
        b.orders("0+9");
        b.dueLaw("v3(1=1)", 1);
        b.dueLaw("v1(1=1);v2(1=2);v", -1017);
        Bench.due("rules", b.x.count(5), 1);
        Bench.due("the one before stays", b.x.tried(1, 2), 3);
        b.dueLaw("v4(1=1)", 1);
        Bench.due("in its place", b.x.tried(1, 2), 4);
        b.x.keep();
        b.dueLaw("v5(1=1);l(1=1)", 2);
        b.x.undo();
        Bench.due("the law is not kept", b.x.count(5), 2);
    }
}
