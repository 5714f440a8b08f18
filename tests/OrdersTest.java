/** Promise 5: orders. */
public final class OrdersTest {
    public static void main(String[] args) {
        carriedOut();
        faults();
        nothingDone();
        lines();
        limits();
        Bench.end();
    }

    private static void carriedOut() {
        Bench b = new Bench();
        b.drum(0, "abc");
        b.drum(7, "-");
        b.dueOrders("0+5", 1);
        Bench.due("turns", b.x.drumIs(0, 2), 5);
        b.dueOrders("0-2", 1);
        Bench.due("turns", b.x.drumIs(0, 2), 3);
        b.dueOrders("0-4", 1);
        Bench.due("0 at least", b.x.drumIs(0, 2), 0);
        b.dueOrders("0+998;0+003", 2);
        Bench.due("999 at most", b.x.drumIs(0, 2), 999);
        b.dueOrders("0+5;0-3", 2);
        Bench.due("one by one", b.x.drumIs(0, 2), 996);
        b.dueOrders("0+0;0-00;7+1", 3);
        Bench.due("turns", b.x.drumIs(0, 2), 996);
        Bench.due("turns", b.x.drumIs(7, 2), 1);
        b.dueOrders("0@2;7@0", 2);
        Bench.due("position", b.x.drumIs(0, 1), 2);
        b.dueOrders("0@001", 1);
        Bench.due("position", b.x.drumIs(0, 1), 1);
        b.dueOrders("0!;7!;7?", 3);
        Bench.due("pardoned", b.x.count(3), 1);
        b.dueOrders("0?", 1);
        Bench.due("pardoned", b.x.count(3), 0);
        b.dueOrders("0#0=p;0#2=-;7#0=d;0#00=e", 4);
        Bench.due("painted", b.row(0), "eb-");
        Bench.due("painted", b.row(7), "d");

        b.law("v2(1=1)");
        b.x.ticks(1);
        b.dueOrders("0@0;0-1;0!", 3);
        Bench.due("way gone stays", b.x.drumIs(0, 3), 2);
        Bench.due("pace stays", b.x.drumIs(0, 4), 2);
    }

    private static void faults() {
        Bench b = new Bench();
        b.drum(0, "abc");
        b.drum(1, "9a7b");
        b.dueOrders("a", -1000);
        b.dueOrders("8!", -1000);
        b.dueOrders(";0!", -1000);
        b.dueOrders("0", -1001);
        b.dueOrders("0;", -1001);
        b.dueOrders("00!", -1001);
        b.dueOrders("0+", -1002);
        b.dueOrders("0+;", -1002);
        b.dueOrders("0+-1", -1002);
        b.dueOrders("0+1x", -1003);
        b.dueOrders("0+1;", -1004);
        b.dueOrders("0+1;;0+1", -1004);
        b.dueOrders("0!!", -1002);
        b.dueOrders("0?0", -1002);
        b.dueOrders("0+ 1", -1002);
        b.dueOrders("0+1234", -2005);
        b.dueOrders("0-0000", -2005);
        b.dueOrders("0@0001", -2005);
        b.dueOrders("0@9999", -2005);
        b.dueOrders("0#9999=a", -2005);
        b.dueOrders("0@3", -3002);
        b.dueOrders("0@999", -3002);
        b.dueOrders("0@3x", -3002);
        b.dueOrders("0#3", -3002);
        b.dueOrders("0#3x", -3002);
        b.dueOrders("0#3=z", -3002);
        b.dueOrders("1@15", 1);
        b.dueOrders("1@16", -3002);
        b.dueOrders("0@1;0@003", -3006);
        b.dueOrders("0@", -1002);
        b.dueOrders("0#", -1002);
        b.dueOrders("0#=a", -1002);
        b.dueOrders("0#1", -1003);
        b.dueOrders("0#1;", -1003);
        b.dueOrders("0#1=", -1004);
        b.dueOrders("0#1=q", -1004);
        b.dueOrders("0#1=1", -1004);
        b.dueOrders("0#1=ab", -1005);
        b.dueOrders("2+1", -7000);
        b.dueOrders("2+", -7000);
        b.dueOrders("2!", -7000);
        b.dueOrders("2#x", -7000);
        b.dueOrders("2", -1001);
        b.dueOrders("2x", -1001);
        b.dueOrders("0!;2?", -7003);
        b.dueOrders("2!;x", -7000);
    }

    private static void nothingDone() {
        Bench b = new Bench();
        b.drum(0, "abc");
        b.orders("0+7;0@1");
        String before = b.state();
        b.dueOrders("0+5;0@2;0!;0#0=d;0#1=-;0x", -1024);
        b.dueOrders("0+5;0@2;0!;0#0=d;3!", -7017);
        Bench.due("nothing is done", b.state(), before);
    }

    private static void lines() {
        Bench b = new Bench();
        b.drum(0, "ab");
        String twenty = "0+1;".repeat(19) + "0+1";
        b.dueOrders(twenty, 20);
        Bench.due("turns", b.x.drumIs(0, 2), 20);
        b.dueOrders(twenty + ";0+1", -4080);
        b.dueOrders(twenty + ";7", -4080);
        b.dueOrders(twenty + ";8", -1080);
        b.dueOrders(twenty + ";", -1080);
        b.dueOrders(twenty + "x", -1079);
        Bench.due("turns", b.x.drumIs(0, 2), 20);
    }

    private static void limits() {
        Bench b = new Bench();
        b.drum(0, "ab");
        String most = "0#001=a;".repeat(14) + "0+001;0!";
        b.dueOrders(most, 16);
        Bench.due("long", most.length(), 120);
        b.dueOrders(most + ";", -1);
        Bench.due("tape stays", b.x.count(6), 140);
        Bench.due("no such n", b.x.orders(0), -1);
        Bench.due("no such n", b.x.orders(-5), -1);
        Bench.due("no such n", b.x.orders(141), -1);
        Bench.due("the first of it", b.x.orders(7), 1);
    }
}
