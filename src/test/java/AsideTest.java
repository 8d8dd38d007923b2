/** Promises 18 to 23: the stairs, what is forgotten, courses in halves, what one hears, who waits, when to begin. */
public final class AsideTest {
    private static final Check check = new Check("AsideTest");
    private static final int LEAST = Integer.MIN_VALUE;
    private static final int GREATEST = Integer.MAX_VALUE;

    public static void main(String[] args) {
        stairs();
        stairsOrNot();
        forgotten();
        halved();
        heard();
        waits();
        send();
        check.end();
    }

    private static void stairs() {
        // Two alike, up at 40 and 120: by the stairs at 60 either gains 60 and 6, and slops for 10.
        stairsAre("da99910;da99910;b0630820;", 0, 56);
        // The lidded one is warmer at 60 than the open one.
        stairsAre("dd59960;dl59960;b0630820;", 1, 11);
        // Without the roast between them the other two go together.
        stairsAre("dd59930;da99910;dd59930;", 1, 44);
        stairsAre("dd59930;da99910;dd59930;o100;", 1, 44);
        stairsAre("dd59930;dd59930;da99910;x12;", 2, 44);
        stairsAre("", -9, 0);
        BoxOnARope box = Check.told("da99910;da99910;b0630820;");
        check.due("stairs(2)", box.stairs(2), 1000000002);
        check.due("stairs(-1)", box.stairs(-1), 1000000002);
        check.due("stairs(greatest)", box.stairs(GREATEST), 1000000002);
        check.due("counted -2", box.count(12), 3);
        check.due("afterwards it is in its GO again", box.of(0, 0), 40);
        check.due("and slops nothing", box.of(0, 6), 0);
    }

    private static void stairsAre(String text, int who, int more) {
        BoxOnARope box = text.isEmpty() ? new BoxOnARope() : Check.told(text);
        check.due("stairs(0) of '" + text + "'", box.stairs(0), who);
        check.due("stairs(1) of '" + text + "'", box.stairs(1), more);
    }

    /** One DISH, up at 70: by the stairs it is 10 sooner, for which it slops. */
    private static void stairsOrNot() {
        stairsAre("dd59910;", -9, 0);
        stairsAre("dl99910;b0690014;", -9, 0);
        stairsAre("dd99910;b0690014;", 0, 1);
        stairsAre("dk99910;b0690014;", -9, 0);
        stairsAre("dk99910;b0690015;", 0, 5);
        stairsAre("ds99910;b0690015;h2;", -9, 0);
    }

    private static void forgotten() {
        BoxOnARope box = Check.told("dd55044;dd55040;");
        check.due("the one that is not asked for", box.forgotten(0), -36);
        check.due("the last one", box.forgotten(1), 0);
        check.is("ORDER is as it was", Check.orderOf(box).equals("01"));
        box.change(0, 1);
        check.due("the one that is asked for", box.forgotten(1), 36);
        check.due("then the last one", box.forgotten(0), 0);
        // Up at 11, 44, 77, 110: the first is 11 LATE, the last 110, the third (COURSE 1) only where it goes last.
        box = Check.told("dk50060;dk50064;dk50061;dk50060;");
        int[] due = {66, -33, -23, 0};
        for (int d = 0; d < 4; d++) check.due("forgotten(" + d + ")", box.forgotten(d), due[d]);
        check.due("forgotten(4)", box.forgotten(4), 1000000001);
        check.due("forgotten(-1)", box.forgotten(-1), 1000000001);
        check.due("forgotten(least)", box.forgotten(LEAST), 1000000001);
        check.due("without DISHES: forgotten(0)", new BoxOnARope().forgotten(0), 1000000001);
        check.due("counted -1", box.count(11), 3);
    }

    private static void halved() {
        BoxOnARope box = Check.told("dd10030;dd10030;dd10030;dd10011;dd10012;");
        int[] due = {1, 1, 0, 0, 0, 0};
        for (int c = -1; c < 5; c++) check.due("halved(" + c + ")", box.halved(c), due[c + 1]);
        box = Check.told("dd10030;dd10034;dd10030;dd10034;");
        check.due("two COURSES", box.halved(-1), 2);
        check.due("the one", box.halved(0), 1);
        check.due("the other", box.halved(4), 1);
        box.change(1, 2);
        check.due("each in a GO of its own", box.halved(-1), 0);
        box.set(0, 3);
        check.due("each DISH in a GO of its own", box.halved(-1), 2);
        check.due("halved(-2)", box.halved(-2), -4);
        check.due("halved(least)", box.halved(LEAST), -4);
        check.due("halved(5)", box.halved(5), -1);
        check.due("halved(greatest)", box.halved(GREATEST), -1);
        check.due("counted -4", box.count(14), 2);
        check.due("counted -1", box.count(11), 2);
        check.due("without DISHES", new BoxOnARope().halved(-1), 0);
        check.due("without DISHES of it", new BoxOnARope().halved(0), 0);
    }

    private static void heard() {
        BoxOnARope box = new BoxOnARope();
        box.begins(0, 50);
        box.begins(1, 99);
        int[] seconds = {0, 49, 50, 198, 199, 200, 299, 300, 399, 400, 999};
        int[] due = {-9, -9, 0, 0, 1, 2, 2, 3, 3, 4, 4};
        for (int i = 0; i < due.length; i++) check.due("heard(" + seconds[i] + ")", box.heard(seconds[i]), due[i]);
        check.due("heard(-1)", box.heard(-1), -4);
        check.due("heard(1000)", box.heard(1000), -6);
        check.due("counted -4", box.count(14), 1);
        check.due("counted -6", box.count(16), 1);
    }

    private static void waits() {
        // Up at 111, 144, 177; the middle one is for COURSE 1.
        BoxOnARope box = Check.told("dd55060;dd55061;dd55060;o100;");
        int[] seconds = {0, 99, 100, 110, 111, 143, 144, 176, 177, 999};
        int[] due = {5, 5, 7, 7, 6, 6, 4, 4, 0, 0};
        for (int i = 0; i < due.length; i++) check.due("waits(" + seconds[i] + ")", box.waits(seconds[i]), due[i]);
        box.begins(1, 20);
        check.due("COURSE 1 not begun", box.waits(119), 4);
        check.due("COURSE 1 begun", box.waits(120), 6);
        check.due("waits(-1)", box.waits(-1), -4);
        check.due("waits(1000)", box.waits(1000), -6);
        check.due("counted -4", box.count(14), 1);
        check.due("counted -6", box.count(16), 1);
        check.due("without DISHES", new BoxOnARope().waits(999), 0);
        check.due("all six", Check.told("dd10014;dd10014;dd10014;dd10014;dd10014;dd10014;o400;").waits(400), 63);
    }

    private static void send() {
        // From SET OUT on up at 11, 44, 77.
        BoxOnARope box = Check.told("dd55060;dd55061;dd55060;");
        for (int out = 0; out <= 400; out += 200) {
            box.set(5, out);
            box.begins(0, 0);
            check.due("COURSE 0 at 0", box.send(0), -9);
            box.begins(0, 76);
            check.due("COURSE 0 at 76", box.send(0), -9);
            box.begins(0, 77);
            check.due("COURSE 0 at 77", box.send(0), 0);
            box.begins(0, 99);
            check.due("COURSE 0 at 99", box.send(0), 22);
            check.due("COURSE 1 at 100", box.send(1), 56);
            check.due("SET OUT is as it was", box.count(7), out);
        }
        check.due("send(2)", box.send(2), -3);
        check.due("send(5)", box.send(5), -1);
        check.due("send(-1)", box.send(-1), -1);
        check.due("send(greatest)", box.send(GREATEST), -1);
        check.due("counted -1", box.count(11), 3);
        check.due("counted -3", box.count(13), 1);
        box = Check.told("dd55064;");
        int[] told = {10, 11, 12, 99};
        int[] due = {399, 400, 400, 400};
        for (int i = 0; i < told.length; i++) {
            box.begins(4, told[i]);
            check.due("COURSE 4 told " + told[i], box.send(4), due[i]);
        }
    }
}
