/** Promises 24 to 30: the row, what fits it, what is judged, evenings by lot, the image, what is counted. */
public final class RowAndImageTest {
    private static final Check check = new Check("RowAndImageTest");
    private static final int LEAST = Integer.MIN_VALUE;
    private static final int GREATEST = Integer.MAX_VALUE;

    public static void main(String[] args) {
        row();
        judge();
        fits();
        fitsRefused();
        lots();
        image();
        imageLeavesOut();
        count();
        check.end();
    }

    private static void row() {
        BoxOnARope box = new BoxOnARope();
        check.due("row(0)", box.row(0), 1);
        check.due("row(99)", box.row(99), 2);
        check.due("row(-1)", box.row(-1), -4);
        check.due("row(100)", box.row(100), -6);
        check.due("row(least)", box.row(LEAST), -4);
        check.due("row(greatest)", box.row(GREATEST), -6);
        check.due("refused they do not come", box.count(8), 2);
        for (int n = 3; n <= 12; n++) check.due("row " + n, box.row(n), n);
        check.due("a 13th", box.row(0), -6);
        check.due("a 13th below", box.row(-1), -4);
        check.due("a 13th above", box.row(100), -6);
        check.due("counted -4", box.count(14), 3);
        check.due("counted -6", box.count(16), 4);
    }

    private static int judged(BoxOnARope box, int... row) {
        for (int v : row) box.row(v);
        int answer = box.judge();
        check.due("the ROW has none then", box.count(8), 0);
        return answer;
    }

    private static int fitting(BoxOnARope box, int i, int... row) {
        for (int v : row) box.row(v);
        int answer = box.fits(i);
        check.due("the ROW stays", box.count(8), row.length);
        box.judge();
        return answer;
    }

    private static void judge() {
        BoxOnARope box = Check.told("dd10040;dd10030;dd10030;");
        check.due("nothing told", judged(box), -9);
        check.due("0 1 1", judged(box, 0, 1, 1), -9);
        check.due("0 1", judged(box, 0, 1), -9);
        check.due("1", judged(box, 1), 0);
        check.due("0 0 1", judged(box, 0, 0, 1), 1);
        check.due("0 1 2", judged(box, 0, 1, 2), 2);
        check.due("0 1 1 0", judged(box, 0, 1, 1, 0), 3);
        check.due("99", judged(box, 99), 0);
        box.change(0, 1);
        check.due("0 1 2 by ORDER 1 0 2", judged(box, 0, 1, 2), -9);
        box.change(0, 2);
        check.due("0 0 1 by ORDER 1 2 0", judged(box, 0, 0, 1), -9);
        check.due("1 0 0 by ORDER 1 2 0", judged(box, 1, 0, 0), 0);
        check.due("without DISHES, 0", judged(new BoxOnARope(), 0), 0);
        check.due("without DISHES, nothing", judged(new BoxOnARope()), -9);
        check.due("no refusal", box.count(11) + box.count(13) + box.count(16), 0);
    }

    /** By 0 1 2 and 0 2 1 they go 0 1 1, by 1 0 2 and 2 0 1 each alone, by 1 2 0 and 2 1 0 they go 0 0 1. */
    private static void fits() {
        BoxOnARope box = Check.told("dd10040;dd10030;dd10030;x01;");
        int[][] rows = {{}, {0}, {0, 1}, {0, 1, 1}, {0, 1, 2}, {0, 0}, {0, 0, 1}, {1}, {0, 0, 0}, {0, 1, 1, 0}};
        int[] many = {6, 6, 4, 2, 2, 2, 2, 0, 0, 0};
        int[][] first = {{0, 1, 2}, {0, 1, 2}, {0, 1, 2}, {0, 1, 2}, {1, 0, 2}, {1, 2, 0}, {1, 2, 0}, {-9, -9, -9}, {-9, -9, -9}, {-9, -9, -9}};
        for (int r = 0; r < rows.length; r++) {
            check.due("fits(-1) of row " + r, fitting(box, -1, rows[r]), many[r]);
            for (int i = 0; i < 3; i++) check.due("fits(" + i + ") of row " + r, fitting(box, i, rows[r]), first[r][i]);
        }
        check.is("ORDER is as it was", Check.orderOf(box).equals("102"));
        check.due("no refusal", box.count(11) + box.count(14), 0);
        BoxOnARope six = Check.told("dd10010;dd10010;dd10010;dd10010;dd10010;dd10010;");
        check.due("all orders of six", six.fits(-1), 720);
        six.row(0);
        check.due("all orders of six, 0", six.fits(-1), 720);
        check.due("without DISHES", new BoxOnARope().fits(-1), 1);
        check.due("without DISHES, 0", fitting(new BoxOnARope(), -1, 0), 0);
    }

    private static void fitsRefused() {
        BoxOnARope box = Check.told("dd10040;dd10030;");
        check.due("fits(-2)", box.fits(-2), -4);
        check.due("fits(least)", box.fits(LEAST), -4);
        check.due("fits(2)", box.fits(2), -1);
        check.due("fits(greatest)", box.fits(GREATEST), -1);
        check.due("counted -1", box.count(11), 2);
        check.due("counted -4", box.count(14), 2);
        check.due("without DISHES: fits(0)", new BoxOnARope().fits(0), -1);
    }

    /** Draws from seed 0: 63 77 86 39 49, 90 64 7 94 35, 27 89 ..; from 7: 77 .., 57 ..; from -1: 61 20 ..; the sign does not count. */
    private static void lots() {
        BoxOnARope box = Check.told("dk50060;o089;");
        check.due("up at", box.of(0, 0), 100);
        check.due("lots(1, 0)", box.lots(1, 0), 37);
        check.due("lots(2, 0)", box.lots(2, 0), 47);
        check.due("lots(3, 0)", box.lots(3, 0), 120);
        check.due("lots(1, 7)", box.lots(1, 7), 23);
        check.due("lots(2, 7)", box.lots(2, 7), 66);
        check.due("lots(1, -1)", box.lots(1, -1), 39);
        check.due("lots(1, least)", box.lots(1, LEAST), 37);
        box.set(5, 90);
        check.due("by the SET OUT there is now", box.lots(1, 0), 38);
        check.due("what is told is as it was", box.begins(0, 0), 0);
        check.due("COURSE 1", Check.told("dk50061;o267;").lots(1, 0), 101);
        check.due("COURSE 4, up at 480, begun at 449 and at 435", Check.told("dk50064;o400;b0690020;").lots(2, 0), 31 + 45);
        check.due("lots(0, 0)", box.lots(0, 0), -4);
        check.due("lots(least, 0)", box.lots(LEAST, 0), -4);
        check.due("lots(21, 0)", box.lots(21, 0), -6);
        check.due("lots(greatest, 0)", box.lots(GREATEST, 0), -6);
        check.due("counted -4", box.count(14), 2);
        check.due("counted -6", box.count(16), 2);
        check.due("without DISHES", new BoxOnARope().lots(20, 5), 0);
    }

    private static void image() {
        BoxOnARope box = Check.told("dd23034;ds44411;b0520910;c344;h1;o050;x01;");
        check.due("image()", box.image(), 2);
        box.heat(0, 1);
        box.begins(3, 2);
        box.change(0, 1);
        for (int what = 0; what < 6; what++) box.set(what, 1 + what / 4);
        check.due("a DISH more", Check.tell(box, "da10010;"), 1);
        for (int turn = 0; turn < 2; turn++) {
            check.due("on()", box.on(), 2);
            check.due("HEAT", box.heat(0, 7), 30);
            check.due("WEIGHT", box.dish(1, 1), 4);
            check.due("no third", box.dish(2, 0), -1);
            check.due("BEGINS", box.begins(3, 9), 44);
            check.is("ORDER", Check.orderOf(box).equals("10"));
            int[] due = {5, 2, 9, 10, 1, 50};
            for (int what = 0; what < 6; what++) check.due("set(" + what + ", 2)", box.set(what, 2), due[what]);
            box.change(0, 1);
        }
        check.due("a later image", box.image(), 2);
        box.heat(0, 55);
        box.on();
        check.due("on from the later one", box.dish(0, 2), 7);
        box = new BoxOnARope();
        check.due("an image of nothing", box.image(), 0);
        Check.tell(box, "dd10010;dd10010;");
        check.due("on from nothing", box.on(), 0);
        check.due("no DISH", box.dish(0, 0), -1);
        check.due("the next one is the first", Check.tell(box, "dg10010;"), 1);
        check.due("the next one is 0", box.dish(0, 0), 4);
    }

    private static void imageLeavesOut() {
        BoxOnARope box = new BoxOnARope();
        check.due("on()", box.on(), -3);
        box.row(1);
        Check.say(box, "h1");
        box.image();
        box.row(2);
        Check.say(box, ";h");
        box.place(0);
        check.due("on()", box.on(), 0);
        check.due("the ROW stays", box.count(8), 2);
        check.due("letters stay", box.count(9), 4);
        check.due("REFUSALS stay: -1", box.count(11), 1);
        check.due("REFUSALS stay: -3", box.count(13), 1);
        Check.say(box, "2;");
        check.due("the letters as they came", box.kitchen(), 2);
        check.due("HASTE", box.count(6), 2);
    }

    private static void count() {
        BoxOnARope box = Check.told("dd20030;ds90060;b1190720;h2;o399;");
        int[] due = {2, 11, 9, 11, 7, 20, 2, 399, 0, 0};
        for (int what = 0; what < due.length; what++) check.due("count(" + what + ")", box.count(what), due[what]);
        box.row(5);
        Check.say(box, "abc");
        check.due("count(8)", box.count(8), 1);
        check.due("count(9)", box.count(9), 3);
        int[] other = {10, 17, -1, LEAST, GREATEST};
        for (int what : other) check.due("count(" + what + ")", box.count(what), -9);
        box.place(9);
        for (int n = 0; n < 2; n++) box.dish(0, 9);
        for (int n = 0; n < 3; n++) box.on();
        for (int n = 0; n < 4; n++) box.goes(-1);
        for (int n = 0; n < 6; n++) box.goes(100);
        int[] refusals = {1, 2, 3, 4, 0, 6};
        for (int what = 11; what <= 16; what++) check.due("count(" + what + ")", box.count(what), refusals[what - 11]);
    }
}
