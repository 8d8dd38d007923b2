/** Promises 10 to 12: how long a go takes, and what becomes of all dishes and of each; numbers worked out by hand. */
public final class GoesTest {
    private static final Check check = new Check("GoesTest");

    public static void main(String[] args) {
        goes();
        goesRefused();
        withoutDishes();
        oneEvening();
        kindsCoolAndSlop();
        whoGoesWithWhom();
        begins();
        refusals();
        check.end();
    }

    private static void goes() {
        BoxOnARope box = new BoxOnARope();
        int[] loads = {8, 11, 5, 12, 4, 0, 16, 99};
        int[] due = {11, 11, 11, 22, 22, 33, 33, 253};
        for (int i = 0; i < loads.length; i++) check.due("goes(" + loads[i] + ")", box.goes(loads[i]), due[i]);
        box.set(4, 1);
        int[] hasty = {11, 11, 11, 11, 11, 22, 22, 242};
        for (int i = 0; i < loads.length; i++) check.due("HASTE 1: goes(" + loads[i] + ")", box.goes(loads[i]), hasty[i]);
        box.set(4, 2);
        box.set(3, 20);
        box.set(2, 40);
        check.due("HASTE 2, PULLS 20, BALANCE 40: goes(0)", box.goes(0), 180);
        check.due("HASTE 2, PULLS 20, BALANCE 40: goes(40)", box.goes(40), 20);
        check.due("HASTE 2, PULLS 20, BALANCE 40: goes(52)", box.goes(52), 40);
        box.set(3, 1);
        box.set(4, 0);
        box.set(2, 0);
        check.due("BALANCE 0, PULLS 1: goes(99)", box.goes(99), 25);
        check.due("BALANCE 0, PULLS 1: goes(0)", box.goes(0), 1);
    }

    private static void goesRefused() {
        BoxOnARope box = new BoxOnARope();
        check.due("goes(-1)", box.goes(-1), -4);
        check.due("goes(least)", box.goes(Integer.MIN_VALUE), -4);
        check.due("goes(100)", box.goes(100), -6);
        check.due("goes(greatest)", box.goes(Integer.MAX_VALUE), -6);
        check.due("counted -4", box.count(14), 2);
        check.due("counted -6", box.count(16), 2);
    }

    private static void withoutDishes() {
        BoxOnARope box = new BoxOnARope();
        box.set(5, 77);
        int[] due = {0, 0, 0, 0, 0, 77, 0, 0};
        for (int what = 0; what < 8; what++) check.due("without DISHES: total(" + what + ")", box.total(what), due[what]);
    }

    /** PULLS 10, HASTE 1, SET OUT 30: d and s go together (6 PLATES, load 9: 10 up), down at 50, the roast (load 12) is up at 60, down at 70. */
    private static void oneEvening() {
        BoxOnARope box = Check.told("dd14020;ds55040;da99911;b0630810;h1;o030;");
        int[] totals = {80, 40, 170, 4, 40, 70, 2, 70};
        for (int what = 0; what < 8; what++) check.due("total(" + what + ")", box.total(what), totals[what]);
        int[][] each = {{40, 40, 36, 40, 0, 0, 0}, {40, 40, 46, 40, 0, 0, 4}, {60, 100, 88, 0, 1, 40, 0}};
        for (int d = 0; d < 3; d++) {
            for (int what = 0; what < 7; what++) check.due("of(" + d + ", " + what + ")", box.of(d, what), each[d][what]);
        }
        // The other way round the roast is up at 40 (load 12), down at 50, d and s at 60.
        box.change(0, 2);
        int[][] turned = {{60, 60, 34, 60, 1, 0, 0}, {60, 60, 44, 60, 1, 0, 4}, {40, 100, 88, 0, 0, 60, 0}};
        for (int d = 0; d < 3; d++) {
            for (int what = 0; what < 7; what++) check.due("turned: of(" + d + ", " + what + ")", box.of(d, what), turned[d][what]);
        }
        int[] turnedTotals = {120, 60, 166, 4, 60, 70, 2, 26};
        for (int what = 0; what < 8; what++) check.due("turned: total(" + what + ")", box.total(what), turnedTotals[what]);
    }

    private static void kindsCoolAndSlop() {
        BoxOnARope box = Check.told("dd19914;ds19914;dl19914;dk19914;dg19914;da19914;");
        kindsDo(box, "at 400", 2, new int[] {59, 59, 79, 99, 79, 58});
        kindsDo(box, "HASTE 0", 6, new int[] {0, 0, 0, 0, 1, 0});
        check.due("HASTE 0: SLOPPED", box.total(3), 1);
        box.set(4, 1);
        kindsDo(box, "HASTE 1", 6, new int[] {0, 4, 0, 0, 5, 0});
        box.set(4, 2);
        kindsDo(box, "HASTE 2", 6, new int[] {0, 8, 0, 0, 9, 0});
        check.due("HASTE 2: SLOPPED", box.total(3), 17);
        check.due("HASTE 2: WORTH", box.total(7), box.total(2) - box.total(0) - 85);
        box.begins(4, 99);
        kindsDo(box, "at 499", 2, new int[] {50, 50, 75, 99, 75, 49});
        for (int d = 0; d < 6; d++) box.heat(d, 24);
        kindsDo(box, "not below 0", 2, new int[] {0, 0, 0, 24, 0, 0});
        // At SECOND 19 a LIDDED one has lost nothing, at 20 the first: half of 1 is cut.
        BoxOnARope lid = Check.told("dl55010;b0630819;");
        check.due("LIDDED at 19", lid.of(0, 2), 50);
        lid.set(3, 20);
        check.due("LIDDED at 20", lid.of(0, 2), 49);
        BoxOnARope roast = Check.told("da55010;b0630801;");
        check.due("a ROAST at 1", roast.of(0, 2), 49);
    }

    private static void kindsDo(BoxOnARope box, String when, int what, int[] due) {
        for (int d = 0; d < 6; d++) check.due(when + ": of(" + d + ", " + what + ")", box.of(d, what), due[d]);
    }

    private static void whoGoesWithWhom() {
        goesAre("exactly ROOM", "dd10010;dd10020;dd10030;dd10010;", "0001");
        goesAre("one PLATE too much", "dd10010;dd10020;dd10040;dd10010;", "0011");
        goesAre("more than ROOM goes by itself", "b0230811;dd10020;dd10060;dd10010;dd10010;", "0122");
        goesAre("a small one behind does not overtake", "dd10040;dd10040;dd10020;", "011");
        goesAre("ROAST alone, with room", "b1130811;dd10010;da10010;dd10010;", "012");
        goesAre("two ROASTS", "b1130811;da10010;da10010;", "01");
        goesAre("ROAST first", "b1130811;da10010;dd10010;dd10010;", "011");
        goesAre("all six in ROOM 11", "b1130811;dd10010;dd10020;dd10020;dd10020;dd10020;dd10020;", "000000");
        goesAre("all six in ROOM 1", "b0130811;dd10010;dd10010;dd10010;dd10010;dd10010;dd10010;", "012345");
        goesAre("by ORDER", "dd10060;dd10010;dd10020;x02;", "100");
        BoxOnARope box = Check.told("b0130811;dd10010;dd10010;dd10010;dd10010;dd10010;dd10010;");
        check.due("six GOES", box.total(6), 6);
        // Each takes 22 up (load 4) and 22 down (load 3).
        check.due("six GOES are down", box.total(5), 6 * 44);
    }

    private static void goesAre(String what, String text, String due) {
        BoxOnARope box = Check.told(text);
        StringBuilder goes = new StringBuilder();
        for (int d = 0; d < box.count(0); d++) goes.append(box.of(d, 4));
        check.is(what + ": GOES " + goes + ", due are " + due, goes.toString().equals(due));
    }

    private static void begins() {
        // UP at 11 whichever it is: LATE is 0 at the begin itself, 1 a SECOND before it.
        BoxOnARope box = Check.told("dd55010;");
        int[] told = {0, 10, 11, 12, 99};
        int[] served = {11, 11, 11, 12, 99};
        int[] late = {11, 1, 0, 0, 0};
        for (int i = 0; i < told.length; i++) {
            box.begins(0, told[i]);
            check.due("told " + told[i] + ": SERVED", box.of(0, 1), served[i]);
            check.due("told " + told[i] + ": LATE", box.of(0, 3), late[i]);
            check.due("told " + told[i] + ": STOOD", box.of(0, 5), served[i] - 11);
        }
        box = Check.told("dd55012;c234;");
        check.due("COURSE 2 begins at 234", box.of(0, 1), 234);
        box = Check.told("dd59910;o400;");
        check.due("SET OUT 400: UP", box.of(0, 0), 411);
        check.due("SET OUT 400: WARM from SECOND 0 on", box.of(0, 2), 58);
    }

    private static void refusals() {
        BoxOnARope box = Check.told("dd55010;");
        check.due("total(8)", box.total(8), 1000000002);
        check.due("total(-1)", box.total(-1), 1000000002);
        check.due("total(least)", box.total(Integer.MIN_VALUE), 1000000002);
        check.due("of(1, 0)", box.of(1, 0), -1);
        check.due("of(-1, 0)", box.of(-1, 0), -1);
        check.due("NOBODY is told ahead of OTHER", box.of(1, 7), -1);
        check.due("of(0, 7)", box.of(0, 7), -2);
        check.due("of(0, -1)", box.of(0, -1), -2);
        check.due("counted -1", box.count(11), 3);
        check.due("counted -2", box.count(12), 5);
    }
}
