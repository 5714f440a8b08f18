/** The boundary cases of ORDERS and of promise 5, sentence by sentence. */
public final class OrdersEdgesTest {
    private static final String DRUMS = "01234567";
    private static final String SIGNS = "+-@!?#";
    private static final String PICTURES = "abcdefghijklmnop-";

    public static void main(String[] args) {
        length();
        tapeTooShort();
        whatStands();
        blanks();
        lines();
        lineTooMany();
        drumDigits();
        moreTurns();
        fewerTurns();
        position();
        pardoned();
        paintedOver();
        digits();
        fourthDigit();
        noSuchFrame();
        noSuchFrameWhenItEnds();
        notTold();
        notToldWhenItsSignIsRead();
        firstFromTheLeft();
        nothingIsDone();
        emptyThen();
        Bench.end();
    }

    /** DRUM 0 of three FRAMES, DRUM 7 of sixteen; no others. */
    private static Bench land() {
        Bench b = Bench.of("abc");
        b.drum(7, "abcdefghijklmnop");
        return b;
    }

    private static int read(String text) {
        return land().orders(text);
    }

    private static void due(String text, int want) {
        Bench.due("orders " + text, read(text), want);
    }

    private static void length() {
        Bench.says("ORDERS: a TEXT of at most 120 bytes");
        String most = "7#015=p;".repeat(14) + "7@015;7!";
        Bench.due("its length", most.length(), 120);
        due(most, 16);
        due("0!", 1);
        due(most.substring(0, 119) + "x", -1119);
        due(most.substring(0, 118) + ";7", -1118);
        due(most.substring(0, 116) + "6;7!", -3114);
        due(most.substring(0, 113) + "+00;7+0", 16);
        due(most.substring(0, 112) + "7+000;7+", -1120);
        Bench b = land();
        b.text(most + ";");
        Bench.due("121 bytes", b.x.orders(121), -1);
        Bench.due("the tape stays", b.x.count(6), 140);
        for (int n : new int[] {0, -1, 122, 140, Integer.MIN_VALUE, Integer.MAX_VALUE}) {
            Bench.due("no such n: " + n, b.x.orders(n), -1);
        }
        Bench.due("nothing was done", b.x.drumIs(7, 5), 0);
        Bench.due("120 bytes of it", b.x.orders(120), 16);
        Bench.due("done", b.x.drumIs(7, 5), 1);
    }

    private static void tapeTooShort() {
        Bench.says("NONE: no such n, it has not so many (the tape stays).");
        Bench b = land();
        Bench.due("an empty tape", b.x.orders(1), -1);
        b.text("0+1;0+1;0+1;0+1;0+01");
        Bench.due("one more than it has", b.x.orders(21), -1);
        Bench.due("the tape stays", b.x.count(6), 20);
        Bench.due("nothing was done", b.x.drumIs(0, 2), 0);
        Bench.due("all that it has", b.x.orders(20), 5);
        Bench.due("done", b.x.drumIs(0, 2), 5);
    }

    private static void whatStands() {
        Bench.says("FAULTS: 1 what can't stand there (the end, too)");
        Stands stands = new Stands(OrdersEdgesTest::read);
        stands.only("", DRUMS);
        stands.only("0", SIGNS);
        stands.only("7", SIGNS);
        stands.only("0+", Stands.DIGITS);
        stands.only("0-", Stands.DIGITS);
        stands.only("0@", Stands.DIGITS);
        stands.only("0#", Stands.DIGITS);
        stands.orEnd("0+1", Stands.DIGITS + ";");
        stands.orEnd("0-12", Stands.DIGITS + ";");
        // a fourth digit is another FAULT
        stands.orEnd("0+123", Stands.DIGITS + ";");
        stands.orEnd("7@1", Stands.DIGITS + ";");
        stands.orEnd("0!", ";");
        stands.orEnd("0?", ";");
        stands.only("7#1", Stands.DIGITS + "=");
        stands.only("7#001", Stands.DIGITS + "=");
        stands.only("0#1=", PICTURES);
        stands.orEnd("0#1=a", ";");
        stands.orEnd("0#1=-", ";");
        stands.only("0!;", DRUMS);
        stands.only("0!;0", SIGNS);
    }

    private static void blanks() {
        Bench.says("ORDERS: a TEXT of at most 120 bytes, no blanks");
        due(" 0!", -1000);
        due("0 !", -1001);
        due("0! ", -1002);
        due("0+ 1", -1002);
        due("0+1 ", -1003);
        due("0!; 0!", -1003);
        due("0#1 =a", -1003);
        due("0#1= a", -1004);
    }

    private static void lines() {
        Bench.says("LINES with a ; (59) between two (20 at most)");
        for (int n = 1; n <= 20; n++) {
            Bench b = land();
            b.dueOrders("0+1;".repeat(n - 1) + "0+1", n);
            Bench.due("all are done", b.x.drumIs(0, 2), n);
        }
        due("0!;", -1003);
        due(";0!", -1000);
        due("0!;;0!", -1003);
        due("0!:0!", -1002);
        due("0!<0!", -1002);
    }

    private static void lineTooMany() {
        Bench.says("4 a 21st LINE, at its digit (if that can stand there)");
        String twenty = "0!;".repeat(19) + "0!";
        due(twenty, 20);
        due(twenty + ";0!", -4060);
        due(twenty + ";0", -4060);
        due(twenty + ";7x", -4060);
        // also if that DRUM is not told
        due(twenty + ";1!", -4060);
        due(twenty + ";8!", -1060);
        due(twenty + ";/!", -1060);
        due(twenty + ";;", -1060);
        due(twenty + ";", -1060);
        due(twenty + "0", -1059);
        due("0x;" + twenty, -1001);
    }

    private static void drumDigits() {
        Bench.says("a digit 0 to 7 (DRUM)");
        due("0!", 1);
        due("7!", 1);
        due("8!", -1000);
        due("9!", -1000);
        due("/!", -1000);
        due("00!", -1001);
        Bench b = Bench.of("a", "a", "a", "a", "a", "a", "a", "a");
        for (int k = 0; k < 8; k++) {
            b.dueOrders(k + "!", 1);
            Bench.due("pardoned ones", b.x.count(3), (1 << k + 1) - 1);
        }
    }

    private static void moreTurns() {
        Bench.says("then + or - and a number (TURNS LEFT more or less; 0 to 999)");
        int[][] fromMoreTo = {
            {0, 0, 0}, {0, 1, 1}, {0, 999, 999}, {1, 998, 999}, {1, 999, 999}, {2, 998, 999}, {999, 0, 999}, {999, 1, 999},
            {999, 999, 999}
        };
        for (int[] t : fromMoreTo) {
            Bench b = land();
            b.orders("0+" + t[0]);
            b.dueOrders("0+" + t[1], 1);
            Bench.due(t[0] + " and " + t[1] + " more", b.x.drumIs(0, 2), t[2]);
            Bench.due("of all", b.x.count(4), t[2]);
        }
    }

    private static void fewerTurns() {
        Bench.says("then + or - and a number (TURNS LEFT more or less; 0 to 999)");
        int[][] fromLessTo = {
            {0, 0, 0}, {0, 1, 0}, {0, 999, 0}, {1, 1, 0}, {1, 2, 0}, {2, 1, 1}, {999, 998, 1}, {999, 999, 0}, {998, 999, 0}
        };
        for (int[] t : fromLessTo) {
            Bench b = land();
            b.orders("0+" + t[0]);
            b.dueOrders("0-" + t[1], 1);
            Bench.due(t[0] + " and " + t[1] + " less", b.x.drumIs(0, 2), t[2]);
        }
        // bounds count at each LINE, not at the end
        Bench b = land();
        b.dueOrders("0+900;0+900;0-999;0-1;0+3", 5);
        Bench.due("one by one", b.x.drumIs(0, 2), 3);
    }

    private static void position() {
        Bench.says("or @ and a number (POSITION)");
        Bench b = land();
        b.orders("0+5");
        b.law("v2(1=1)");
        b.x.ticks(1);
        b.dueOrders("0@0", 1);
        b.dueDrumIs(0, 3, 0, 5, 2, 2, 0, 0, 0);
        b.dueOrders("0@2", 1);
        b.dueDrumIs(0, 3, 2, 5, 2, 2, 0, 2, 0);
        b.dueOrders("0@3", -3002);
        Bench.due("position", b.x.drumIs(0, 1), 2);
        b.dueOrders("7@15", 1);
        Bench.due("position", b.x.drumIs(7, 1), 15);
        b.dueOrders("7@16", -3002);
        Bench.due("position", b.x.drumIs(7, 1), 15);
    }

    private static void pardoned() {
        Bench.says("or ! (PARDONED), or ? (not)");
        Bench b = land();
        b.dueOrders("0?", 1);
        Bench.due("not pardoned", b.x.drumIs(0, 5), 0);
        b.dueOrders("0!", 1);
        Bench.due("pardoned", b.x.drumIs(0, 5), 1);
        b.dueOrders("0!", 1);
        Bench.due("still pardoned", b.x.drumIs(0, 5), 1);
        b.dueOrders("0?;0!", 2);
        Bench.due("the last counts", b.x.drumIs(0, 5), 1);
        b.dueOrders("0!;0?", 2);
        Bench.due("the last counts", b.x.drumIs(0, 5), 0);
        Bench.due("the other one", b.x.drumIs(7, 5), 0);
    }

    private static void paintedOver() {
        Bench.says("or # and a number and = and a letter a to p or - (FRAME so and so is painted over: its WEAR is 0)");
        Bench b = land();
        b.orders("0+9");
        b.law("v1(1=1);a60(1=1)");
        b.x.ticks(6);
        for (int i = 0; i < 3; i++) {
            Bench.due("faded", b.x.frameIs(0, i, 1), 99);
        }
        b.dueOrders("0#0=p", 1);
        Bench.due("row", b.row(0), "pbc");
        Bench.due("its wear", b.x.frameIs(0, 0, 1), 0);
        Bench.due("not that of the next one", b.x.frameIs(0, 1, 1), 99);
        Bench.due("not that of the last one", b.x.frameIs(0, 2, 1), 99);
        Bench.due("gaps", b.x.drumIs(0, 7), 2);
        b.dueOrders("0#2=-;0#1=b", 2);
        Bench.due("row", b.row(0), "pb-");
        Bench.due("its wear, also by the same picture", b.x.frameIs(0, 1, 1), 0);
        Bench.due("its wear", b.x.frameIs(0, 2, 1), 0);
        Bench.due("gaps", b.x.drumIs(0, 7), 1);
        b.dueOrders("0#1=a;0#1=c", 2);
        Bench.due("the last counts", b.row(0), "pc-");
        b.dueOrders("7#15=a", 1);
        Bench.due("the last frame", b.row(7), "abcdefghijklmnoa");
        due("0#1=`", -1004);
        due("0#1=q", -1004);
        due("0#3=a", -3002);
        due("7#16=a", -3002);
    }

    private static void digits() {
        Bench.says("numbers of one to three digits");
        due("0+", -1002);
        due("0+1", 1);
        due("0+12", 1);
        due("0+123", 1);
        due("0+000", 1);
        due("0@000", 1);
        due("0@02", 1);
        due("0#002=a", 1);
        due("0#00=a", 1);
        Bench b = land();
        b.dueOrders("0+007;7@015", 2);
        Bench.due("seven", b.x.drumIs(0, 2), 7);
        Bench.due("fifteen", b.x.drumIs(7, 1), 15);
    }

    private static void fourthDigit() {
        Bench.says("2 a fourth digit, at it");
        due("0+0000", -2005);
        due("0-1000", -2005);
        due("0@0000", -2005);
        due("0#0001=a", -2005);
        due("0+00000", -2005);
        due("0+1;0+1234x", -2009);
    }

    private static void noSuchFrame() {
        Bench.says("3 no such FRAME (with @, #), at the number's first digit");
        due("0@2", 1);
        due("0@3", -3002);
        due("0@999", -3002);
        due("0@003", -3002);
        due("0#2=a", 1);
        due("0#3=a", -3002);
        due("0#999=a", -3002);
        due("7@15;7@16", -3007);
        due("0!;7#15=a;7#016=a", -3012);
        due("0+3", 1);
        due("0-999", 1);
    }

    private static void noSuchFrameWhenItEnds() {
        Bench.says("3 no such FRAME (with @, #), at the number's first digit (asked when it ends)");
        due("0@9999", -2005);
        due("0#9999=a", -2005);
        due("0@9x", -3002);
        due("0@99;", -3002);
        due("0#9", -3002);
        due("0#9x", -3002);
        due("0#9=x", -3002);
        due("0@", -1002);
        due("0@x", -1002);
    }

    private static void notTold() {
        Bench.says("7 a DRUM that is not told, at its digit");
        for (int k = 1; k <= 6; k++) {
            due(k + "!", -7000);
            due("0!;" + k + "+1", -7003);
        }
        Bench b = land();
        b.drum(1, "a");
        b.dueOrders("1!", 1);
    }

    private static void notToldWhenItsSignIsRead() {
        Bench.says("7 a DRUM that is not told, at its digit (asked when its sign has been read)");
        due("1", -1001);
        due("1x", -1001);
        due("1;", -1001);
        for (char sign : SIGNS.toCharArray()) {
            due("1" + sign, -7000);
            due("1" + sign + "x", -7000);
        }
        due("1+1234", -7000);
        due("1@99", -7000);
    }

    private static void firstFromTheLeft() {
        Bench.says("FAULTS: 1 what can't stand there (the end, too); 2 a fourth digit, at it; 3 no such FRAME");
        due("0@9;1!;x", -3002);
        due("1!;0@9;x", -7000);
        due("0+1234;0@9", -2005);
        due("x;0@9", -1000);
    }

    private static void nothingIsDone() {
        Bench.says("Nothing is done by ORDERS with a FAULT.");
        String good = "0+5;0@2;0!;0#0=d;7#15=-;7+9;";
        String[] bad = {"0x", "0+1234", "0@3", "1!", "0!;".repeat(14) + "0!"};
        int[] faults = {-1029, -2033, -3030, -7028, -4070};
        for (int i = 0; i < bad.length; i++) {
            Bench b = land();
            b.orders("0+1;7@3");
            b.law("v1(1=1);a50(1=1)");
            b.x.ticks(1);
            String before = b.state();
            b.dueOrders(good + bad[i], faults[i]);
            Bench.due("nothing is done with " + bad[i], b.state(), before);
            Bench.due("the tape is empty", b.x.count(6), 0);
            b.dueOrders(good + "0!", 7);
            Bench.due("all is done without", b.row(0), "dbc");
        }
    }

    private static void emptyThen() {
        Bench.says("ORDERS by the first n bytes of the tape (1 to 120; empty then)");
        Bench b = land();
        b.text("0!;0!" + "x".repeat(250));
        Bench.due("a full tape", b.x.count(6), 260);
        Bench.due("the first two", b.x.orders(2), 1);
        Bench.due("the rest is gone, too", b.x.count(6), 0);
        Bench.due("nothing is left", b.x.orders(1), -1);
    }
}
