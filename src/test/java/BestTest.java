/** Promises 13 to 17: the best order, the best setting, one plate more, two who pull; numbers worked out by hand. */
public final class BestTest {
    private static final Check check = new Check("BestTest");

    public static void main(String[] args) {
        bestOfTwo();
        bestOfThree();
        bestOfEqualsAndOfNone();
        bestRefused();
        bestSet();
        roomMore();
        twoPull();
        nothingIsChanged();
        check.end();
    }

    /** By 0 1 the one for COURSE 0 is up at 44, by 1 0 at 11; the other one is SERVED at 400 anyway. */
    private static void bestOfTwo() {
        BoxOnARope box = Check.told("dd55044;dd55040;");
        int[] byOrder = {44, 44, 56, 0, 389, 66, 2, 12};
        int[] best = {11, 11, 59, 0, 356, 66, 2, 48};
        String[] order = {"10", "10", "10", "01", "10", "01", "01", "10"};
        for (int turn = 0; turn < 2; turn++) {
            for (int what = 0; what < 8; what++) {
                if (turn == 0) check.due("total(" + what + ")", box.total(what), byOrder[what]);
                check.due("best(" + what + ")", box.best(what), best[what]);
                check.is("bestAt(" + what + ", ..) is not " + order[what], Check.bestOrder(box, what).equals(order[what]));
            }
            box.change(0, 1);
        }
    }

    private static void bestOfThree() {
        BoxOnARope box = Check.told("dd15030;dd15040;dd15030;");
        check.due("total(6)", box.total(6), 3);
        check.due("total(5)", box.total(5), 132);
        check.due("best(6)", box.best(6), 2);
        check.due("best(5)", box.best(5), 77);
        check.is("first and last go together", Check.bestOrder(box, 6).equals("021"));
        check.is("down soonest", Check.bestOrder(box, 5).equals("021"));
        // Six, each by itself (load 8): up at 11, 44, 77, 110, 143, 176; the last of COURSE 0 goes first, the others are in time anyhow.
        box = Check.told("dk50064;dk50063;dk50062;dk50064;dk50063;dk50060;");
        check.due("best(0) of six", box.best(0), 11);
        check.is("best order of six by LATE", Check.bestOrder(box, 0).equals("501234"));
        check.due("best(7) of six", box.best(7), -11);
        check.is("best order of six by WORTH", Check.bestOrder(box, 7).equals("501234"));
        check.due("best(1) of six", box.best(1), 11);
        check.is("best order of six by most LATE", Check.bestOrder(box, 1).equals("501234"));
        // By the most LATE two of COURSE 0 are alike with 44, whichever of them goes first.
        box = Check.told("dk50060;dk50061;dk50060;");
        check.due("best(1)", box.best(1), 44);
        check.is("its order", Check.bestOrder(box, 1).equals("021"));
        check.due("best(0)", box.best(0), 55);
    }

    private static void bestOfEqualsAndOfNone() {
        BoxOnARope box = Check.told("dg15030;dg15030;dg15030;dg15030;dg15030;dg15030;x05;x14;x23;");
        for (int what = 0; what < 8; what++) {
            check.is("of several the first by DISHES: " + what, Check.bestOrder(box, what).equals("012345"));
            check.due("all alike: best(" + what + ")", box.best(what), box.total(what));
        }
        box = new BoxOnARope();
        box.set(5, 33);
        int[] due = {0, 0, 0, 0, 0, 33, 0, 0};
        for (int what = 0; what < 8; what++) {
            check.due("without DISHES: best(" + what + ")", box.best(what), due[what]);
            check.due("without DISHES: bestAt(" + what + ", 0)", box.bestAt(what, 0), -1);
        }
        check.due("one: best(7)", Check.told("da99910;").best(7), 99 - 3 - 22);
    }

    private static void bestRefused() {
        BoxOnARope box = Check.told("dd55044;dd55040;");
        check.due("best(8)", box.best(8), 1000000002);
        check.due("best(-1)", box.best(-1), 1000000002);
        check.due("bestAt(8, 0)", box.bestAt(8, 0), -2);
        check.due("bestAt(-1, 0)", box.bestAt(-1, 0), -2);
        check.due("OTHER is told ahead of NOBODY", box.bestAt(8, 2), -2);
        check.due("bestAt(0, 2)", box.bestAt(0, 2), -1);
        check.due("bestAt(0, -1)", box.bestAt(0, -1), -1);
        check.due("bestAt(7, greatest)", box.bestAt(7, Integer.MAX_VALUE), -1);
        check.due("counted -1", box.count(11), 3);
        check.due("counted -2", box.count(12), 5);
        int[] other = {-1, 1, 3, 6, Integer.MIN_VALUE, Integer.MAX_VALUE};
        for (int what : other) check.due("bestSet(" + what + ")", box.bestSet(what), -2);
        check.due("counted -2", box.count(12), 11);
    }

    private static void bestSet() {
        BoxOnARope box = Check.told("dd99910;b0630820;");
        check.due("load 12 and BALANCE 9 are less than 4 apart", box.bestSet(2), 9);
        check.due("HASTE 1 gives the least there is", box.bestSet(4), 1);
        check.due("one PLATE", box.bestSet(0), 1);
        check.due("SOUP that slops for 20 and gains 22", Check.told("ds99910;b0630820;").bestSet(4), 1);
        check.due("SOUP that slops for 20 and gains 11", Check.told("ds99910;b0630810;").bestSet(4), 0);
        check.due("HASTE 2 for a load 13 too much", Check.told("dd99930;dd99930;").bestSet(4), 2);
        check.due("both together", Check.told("dd25030;dd35030;b1130811;").bestSet(0), 6);
        check.due("both together in the most there is", Check.told("dd25060;dd35050;b0130811;").bestSet(0), 11);
        // Loads 9 + 9 + 9 + 9 + 9 + 9 and SELF 9 are 63: BALANCE 40 leaves 23, by 4 cut 5; from 40 on it would be less.
        check.due("the most BALANCE", Check.told("dd99910;dd99910;dd99910;dd99910;dd99910;dd99910;b0690011;").bestSet(2), 40);
        check.due("SET OUT at once", Check.told("dd99914;o400;").bestSet(5), 0);
        box = new BoxOnARope();
        box.set(0, 11);
        box.set(2, 40);
        box.set(4, 2);
        box.set(5, 400);
        check.due("without DISHES: ROOM", box.bestSet(0), 1);
        check.due("without DISHES: BALANCE", box.bestSet(2), 0);
        check.due("without DISHES: HASTE", box.bestSet(4), 0);
        check.due("without DISHES: SET OUT", box.bestSet(5), 0);
    }

    private static void roomMore() {
        // Apart they are up at 11 and 44 (WORTH 40), together at 11 (WORTH 76).
        check.due("together", Check.told("dd25040;dd35030;").roomMore(), 36);
        // With a heavy one beside it (load 17) the first is up at 33, not at 11, and colder by 2.
        check.due("less WORTH together", Check.told("dd55030;dd99944;").roomMore(), -24);
        check.due("all have room", Check.told("dd55030;").roomMore(), 0);
        check.due("no DISHES", new BoxOnARope().roomMore(), 0);
        BoxOnARope box = Check.told("dd25060;dd35050;");
        box.set(0, 10);
        check.due("ROOM 10", box.roomMore(), 36);
        box.set(0, 11);
        check.due("ROOM 11", box.roomMore(), 1000000003);
        check.due("counted -3", box.count(13), 1);
        box.set(0, 9);
        check.due("ROOM 9", box.roomMore(), 0);
    }

    private static void twoPull() {
        // PULLS 11 become 6: up at 6 and 24, not at 11 and 44: WORTH 68, not 40.
        BoxOnARope box = Check.told("dd25040;dd35030;");
        check.due("PULLS 11", box.twoPull(), 28);
        box.set(3, 1);
        check.due("PULLS 1", box.twoPull(), 0);
        box.set(3, 2);
        check.due("PULLS 2: up at 1 and 4, not at 2 and 8", box.twoPull(), 5);
        check.due("no DISHES", new BoxOnARope().twoPull(), 0);
    }

    private static void nothingIsChanged() {
        BoxOnARope box = Check.told("dd55044;dd55040;b0741912;h1;o055;");
        box.row(7);
        for (int what = 0; what < 8; what++) {
            box.best(what);
            box.bestAt(what, 0);
            box.bestSet(what);
        }
        box.roomMore();
        box.twoPull();
        int[] due = {2, 10, 8, 7, 19, 12, 1, 55, 1, 0};
        for (int what = 0; what < due.length; what++) check.due("then: count(" + what + ")", box.count(what), due[what]);
        check.is("ORDER is as it was", Check.orderOf(box).equals("01"));
        check.due("SELF is as it was", box.set(1, 0), 4);
    }
}
