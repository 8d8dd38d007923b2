/** Part II at its edges: of several the least or the first, nothing to be had, exactly as much, the ends of each search. */
public final class SearchEdgesTest {
    private static final Check check = new Check("SearchEdgesTest");

    public static void main(String[] args) {
        ofAllOrders();
        ofSeveralTheFirstByDishes();
        leastOrMost();
        mostWorthOfSeveralTheLeast();
        onePlateMore();
        halfRoundedUp();
        moreThanWithout();
        stairsFromSetOutOn();
        ofSeveralTheLeastByStairs();
        lastOfAll();
        inMoreGoesThanOne();
        hasBegun();
        notYetUp();
        noLaterThanItsBegin();
        standLeast();
        firstThatIsNotSoOrBeyond();
        wholeRow();
        drawsWrapAround();
        seedsAndEvenings();
        askingChangesNothing();
        check.end();
    }

    private static String bestOrder(BoxOnARope box, int what) {
        return Check.bestOrder(box, what);
    }

    private static void bestIs(BoxOnARope box, int what, int value, String order) {
        check.due("best(" + what + ")", box.best(what), value);
        check.is("the best ORDER by " + what + " is " + bestOrder(box, what) + ", not " + order, bestOrder(box, what).equals(order));
    }

    /**
     * "Of all ORDERS": only the last of all 720 is best. Each by itself, up at 60, 160, .. 460, just when COURSES 0 .. 4
     * begin; of the two for COURSE 4 the heavy one (up 20 SECONDS later) is LATE by 120 if it is last, else both are LATE.
     */
    private static void ofAllOrders() {
        BoxOnARope box = Check.told("b0640020;dk89964;dk49964;dk49963;dk49962;dk49961;dk49960;c060;c160;c260;c360;c460;");
        bestIs(box, 0, 120, "543210");
        bestIs(box, 7, 6 * 99 - 120, "543210");
        box.change(0, 5);
        bestIs(box, 0, 120, "543210");
    }

    /** "Of several the first by DISHES": by their numbers, not as they stand in ORDER, and not the last one found. */
    private static void ofSeveralTheFirstByDishes() {
        // COURSE 0's goes first (LATE by 11); the other three are in time in any ORDER.
        BoxOnARope box = Check.told("dk50064;dk50064;dk50064;dk50060;x12;x02;");
        bestIs(box, 0, 11, "3012");
        bestIs(box, 1, 11, "3012");
        bestIs(box, 7, -11, "3012");
        // In any ORDER alike.
        for (int what : new int[] {2, 3, 5, 6}) bestIs(box, what, box.total(what), "0123");
        // Together with 0 goes 2 (6 PLATES), not 1 (7): two GOES by 021, 102, 120, 201.
        box = Check.told("dd15030;dd15040;dd15030;x02;");
        bestIs(box, 6, 2, "021");
        BoxOnARope one = Check.told("dk50060;");
        for (int what = 0; what < 8; what++) bestIs(one, what, one.total(what), "0");
    }

    /** "The least of these (the most of WARM, WORTH)": by 01 the open one is up at 44 in time, by 10 at 11 and stands. */
    private static void leastOrMost() {
        BoxOnARope box = Check.told("dk59960;dd59960;");
        // 01: UP 11 and 44, WARM 99 and 95; 10: WARM 99 and 98.
        bestIs(box, 2, 99 + 98, "10");
        bestIs(box, 7, 99 + 98 - 55, "10");
        bestIs(box, 0, 55, "01");
        bestIs(box, 1, 44, "01");
        // STOOD: COURSE 1 begins at 100; the one for it stands least if it is up last.
        box = Check.told("dk50061;dk50060;");
        bestIs(box, 4, 56, "10");
    }

    /** "BALANCE (0 .. 40), ROOM (1 .. 11), HASTE (0 .. 2), SET OUT (0, 10, .. 400) with the most WORTH, of several the least". */
    private static void mostWorthOfSeveralTheLeast() {
        bestSetIs(2, "dk10060;b0600820;", 0, "load 1: from BALANCE 0 to 4");
        bestSetIs(2, "dk40060;b0600820;", 1, "load 4: from BALANCE 1 to 7");
        bestSetIs(2, "dk90060;b0690820;", 15, "load 18: from BALANCE 15 to 21");
        bestSetIs(2, "dk90010;dk90010;dk90010;dk90010;b0470020;", 40, "load 43: from BALANCE 40 on");
        bestSetIs(2, "dk90010;dk90010;dk90010;dk80010;b0470020;", 39, "load 42: from BALANCE 39 on");
        bestSetIs(0, "dk10060;b1130820;", 1, "one DISH in any ROOM");
        bestSetIs(0, "dk10010;dk10010;b1130820;", 2, "two together in ROOM 2");
        bestSetIs(0, "dk10050;dk10060;b0130820;", 11, "two together in ROOM 11");
        bestSetIs(0, "dk10060;dk10060;b1130820;", 1, "never together");
        bestSetIs(4, "dk10060;b0600320;h2;", 0, "no less than 1 time, whichever HASTE");
        bestSetIs(4, "dk10060;b0600520;", 1, "2 times by HASTE 0");
        bestSetIs(4, "dk10060;b0600920;", 2, "3 times by HASTE 0");
        bestSetIs(4, "ds10060;b0600520;h2;", 0, "20 SECONDS gained, 20 lost by SLOPS");
        bestSetIs(4, "ds19960;b0600520;h2;", 1, "20 SECONDS and 2 of WARM gained, 20 lost by SLOPS");
        bestSetIs(5, "dk19964;o400;", 0, "up in time by any SET OUT");
        bestSetIs(5, "dd19960;o400;", 0, "the sooner the better");
    }

    private static void bestSetIs(int what, String text, int due, String why) {
        BoxOnARope box = Check.told(text);
        check.due("bestSet(" + what + ") of " + text + " (" + why + ")", box.bestSet(what), due);
    }

    /** "With 1 PLATE more (11 at most)": two cold ones together are up at 20, apart at 20 and 60. */
    private static void onePlateMore() {
        BoxOnARope box = Check.told("dk10060;dk10050;b0100220;");
        for (int room = 1; room <= 10; room++) {
            box.set(0, room);
            check.due("ROOM " + room + ": roomMore()", box.roomMore(), room == 10 ? 40 : 0);
            check.due("ROOM stays", box.count(3), room);
        }
        box.set(0, 11);
        check.due("ROOM 11: roomMore()", box.roomMore(), 1000000003);
        check.due("and is counted", box.count(13), 1);
    }

    /** "With half of PULLS, rounded up": one that is up after PULLS SECONDS, LATE by so many. */
    private static void halfRoundedUp() {
        BoxOnARope box = Check.told("dk10060;b0600101;");
        int[] half = {1, 1, 2, 2, 3, 3, 4, 4, 5, 5, 6, 6, 7, 7, 8, 8, 9, 9, 10, 10};
        for (int pulls = 1; pulls <= 20; pulls++) {
            box.set(3, pulls);
            check.due("PULLS " + pulls + ": twoPull()", box.twoPull(), pulls - half[pulls - 1]);
            check.due("PULLS stay", box.count(5), pulls);
        }
    }

    /**
     * "More than without; -9": a cold one, up after n SECONDS; by the stairs it is up after 60, and its SLOPS cost 10, so it
     * gains n less 70: none at 70, 2 at 72.
     */
    private static void moreThanWithout() {
        for (int pulls = 1; pulls <= 20; pulls++) {
            // A new one for each, since an object is asked no more than 512 calls.
            BoxOnARope cold = Check.told("dk19960;b0600001;");
            BoxOnARope soup = Check.told("ds10060;b0600001;");
            for (BoxOnARope box : new BoxOnARope[] {cold, soup}) {
                box.set(3, pulls);
                for (int times = 1; times <= 10; times++) {
                    box.set(2, 4 * times - 3);
                    int up = pulls * times;
                    check.due("up after " + up + ": stairs(0)", box.stairs(0), up > 70 ? 0 : -9);
                    check.due("up after " + up + ": stairs(1)", box.stairs(1), up > 70 ? up - 70 : 0);
                }
            }
        }
        BoxOnARope hasty = Check.told("dg10060;b0600909;h2;");
        hasty.set(2, 37);
        // 10 times less HASTE 2 are 72 SECONDS: a gain of 2 whatever it SLOPS anyhow.
        check.due("2 more", hasty.stairs(1), 2);
        check.due("who", hasty.stairs(0), 0);
    }

    /** "60 SECONDS from SET OUT on": for COURSE 1 up just in time from SET OUT 40. By the box it is up after 200. */
    private static void stairsFromSetOutOn() {
        BoxOnARope box = Check.told("dk19961;b0603720;");
        int[][] due = {{0, 90}, {39, 129}, {40, 130}, {41, 130}, {400, 130}};
        for (int[] d : due) {
            box.set(5, d[0]);
            check.due("SET OUT " + d[0] + ": stairs(1)", box.stairs(1), d[1]);
            check.due("SET OUT " + d[0] + ": stairs(0)", box.stairs(0), 0);
        }
    }

    /** "Of several the least": 1 or 2 by the stairs gains 60 less 10 (up at 40 and 60, not at 40 and 120), whichever. */
    private static void ofSeveralTheLeastByStairs() {
        BoxOnARope box = Check.told("dk19964;dk19960;dk19960;b0630820;x01;x02;");
        check.is("ORDER is 1 2 0", Check.orderOf(box).equals("120"));
        check.due("stairs(0)", box.stairs(0), 1);
        check.due("stairs(1)", box.stairs(1), 50);
        box.change(1, 2);
        check.due("by ORDER 2 1 0: stairs(0)", box.stairs(0), 1);
        check.due("by ORDER 2 1 0: stairs(1)", box.stairs(1), 50);
    }

    /** "FORGOTTEN: a DISH goes last of all: how much less WORTH (may be below 0)": the last one, the only one, one of six. */
    private static void lastOfAll() {
        check.due("the only one", Check.told("dd19960;").forgotten(0), 0);
        BoxOnARope box = Check.told("dk50064;dk50064;dk50064;dk50064;dk50064;dk50060;");
        // COURSE 0's is up at 176; with each one ahead of it forgotten, 33 sooner. The others are in time.
        for (int d = 0; d < 6; d++) check.due("forgotten(" + d + ")", box.forgotten(d), d == 5 ? 0 : -33);
        box.change(0, 5);
        for (int d = 0; d < 6; d++) check.due("first in ORDER is 5: forgotten(" + d + ")", box.forgotten(d), d == 5 ? 165 : 0);
        check.is("ORDER stays", Check.orderOf(box).equals("512340"));
    }

    /** "Whether the DISHES of a COURSE come in more GOES than one: 1, 0; how many COURSES do". */
    private static void inMoreGoesThanOne() {
        for (int c = 0; c < 5; c++) {
            BoxOnARope box = Check.told("dd1003" + c + ";dd1003" + c + ";");
            check.due("two of " + c + " in one GO", box.halved(c), 0);
            check.due("two of " + c + " in one GO: how many", box.halved(-1), 0);
            box.set(0, 5);
            for (int other = 0; other < 5; other++) check.due("two of " + c + " in two GOES: " + other, box.halved(other), other == c ? 1 : 0);
            check.due("two of " + c + " in two GOES: how many", box.halved(-1), 1);
            check.due("one of " + c, Check.told("dd1003" + c + ";").halved(c), 0);
        }
        BoxOnARope box = Check.told("dd10060;dd10061;dd10062;dd10060;dd10061;dd10062;");
        int[] due = {3, 1, 1, 1, 0, 0};
        for (int c = -1; c < 5; c++) check.due("six in six GOES: halved(" + c + ")", box.halved(c), due[c + 1]);
        check.due("six of one in six GOES", Check.told("dd10064;".repeat(6)).halved(4), 1);
        check.due("six of one in six GOES: how many", Check.told("dd10064;".repeat(6)).halved(-1), 1);
        check.due("six of one in one GO", Check.told("b0630811;" + "dd10014;".repeat(6)).halved(4), 0);
    }

    /** "The latest COURSE that has begun; -9 none": a SECOND ahead of each begin, at it, and up to 999. */
    private static void hasBegun() {
        for (int told : new int[] {0, 1, 50, 98, 99}) {
            BoxOnARope box = new BoxOnARope();
            for (int c = 0; c < 5; c++) box.begins(c, told);
            for (int c = 0; c < 5; c++) {
                int begin = 100 * c + told;
                if (begin > 0) check.due("told " + told + ": heard(" + (begin - 1) + ")", box.heard(begin - 1), c == 0 ? -9 : c - 1);
                check.due("told " + told + ": heard(" + begin + ")", box.heard(begin), c);
            }
            check.due("told " + told + ": heard(0)", box.heard(0), told == 0 ? 0 : -9);
            check.due("told " + told + ": heard(999)", box.heard(999), 4);
        }
    }

    /** "DISHES (bits) not yet UP whose COURSE has begun": from the begin on, up to the SECOND ahead of its being UP. */
    private static void notYetUp() {
        for (int d = 0; d < 6; d++) {
            // All of COURSE 4, but d of COURSE 1, which begins at 120; all go together, up at 150.
            StringBuilder text = new StringBuilder("o147;b0650803;c120;");
            for (int e = 0; e < 6; e++) text.append(e == d ? "dk10011;" : "dk10014;");
            BoxOnARope box = Check.told(text.toString());
            check.due("UP", box.of(d, 0), 150);
            int[] seconds = {0, 119, 120, 149, 150, 400, 999};
            int[] waits = {0, 0, 1, 1, 0, 0, 0};
            for (int i = 0; i < seconds.length; i++) check.due("waits(" + seconds[i] + ")", box.waits(seconds[i]), waits[i] << d);
        }
        BoxOnARope box = Check.told("dk50060;");
        check.due("up at 11: waits(10)", box.waits(10), 1);
        check.due("up at 11: waits(11)", box.waits(11), 0);
        box.begins(0, 11);
        check.due("begins when it is up: waits(10)", box.waits(10), 0);
        check.due("begins when it is up: waits(11)", box.waits(11), 0);
    }

    /** "UP no later than its begin": up 11 SECONDS from SET OUT on, for each COURSE and all that can be told for it. */
    private static void noLaterThanItsBegin() {
        for (int c = 0; c < 5; c++) {
            BoxOnARope box = Check.told("dk5006" + c + ";o123;");
            for (int told = 0; told <= 99; told++) {
                box.begins(c, told);
                int latest = 100 * c + told - 11;
                check.due("COURSE " + c + " told " + told + ": send", box.send(c), latest < 0 ? -9 : Math.min(latest, 400));
            }
            check.due("SET OUT stays", box.count(7), 123);
        }
    }

    /** "All its DISHES .. and STAND least": the last of them counts, not another COURSE's behind it, nor the first one. */
    private static void standLeast() {
        // Up at 11, 44, 77, 110 from SET OUT on.
        BoxOnARope box = Check.told("dk50063;dk50064;dk50063;dk50064;");
        check.due("COURSE 3 begins at 300", box.send(3), 300 - 77);
        check.due("COURSE 4 begins at 400", box.send(4), 400 - 110);
        box.begins(3, 99);
        check.due("COURSE 3 begins at 399", box.send(3), 399 - 77);
        box.begins(4, 99);
        check.due("COURSE 4 begins at 499", box.send(4), 499 - 110);
        box.change(0, 3);
        check.due("by ORDER 3 1 2 0: COURSE 3", box.send(3), 399 - 110);
        check.due("by ORDER 3 1 2 0: COURSE 4", box.send(4), 400);
        check.due("no DISH is of COURSE 0", box.send(0), -3);
        // Later than any begin: 220 down and 200 up, six times.
        check.due("none is soon enough", Check.told("b0104020;" + "dk10014;".repeat(6)).send(4), -9);
    }

    /** "The first that is not so (or beyond); -9": each place wrong by one, by many, together with a later one; beyond. */
    private static void firstThatIsNotSoOrBeyond() {
        int[] so = {0, 0, 1, 2, 2, 3};
        for (int i = 0; i < 6; i++) {
            for (int wrong : new int[] {so[i] + 1, so[i] == 0 ? 99 : so[i] - 1, 99}) {
                BoxOnARope box = sixInFour();
                for (int j = 0; j < i; j++) box.row(so[j]);
                check.due("so far all is so: " + i, box.judge(), -9);
                for (int j = 0; j < 12; j++) box.row(j == i ? wrong : j < 6 ? so[j] : 0);
                check.due("place " + i + " is " + wrong, box.judge(), i);
                check.due("the ROW has none then", box.count(8), 0);
                check.due("and none is judged", box.judge(), -9);
            }
        }
        BoxOnARope box = sixInFour();
        for (int n = 6; n <= 12; n++) {
            for (int j = 0; j < n; j++) box.row(j < 6 ? so[j] : 3);
            check.due(n + " in the ROW", box.judge(), n == 6 ? -9 : 6);
        }
        for (int what = 11; what <= 16; what++) check.due("none is refused: count(" + what + ")", box.count(what), 0);
    }

    /** GOES 0 0 1 2 2 3 by ORDER 5 4 3 2 1 0. */
    private static BoxOnARope sixInFour() {
        BoxOnARope box = Check.told("dd10060;dd10030;dd10030;da10010;dd10030;dd10030;x05;x14;x23;");
        check.due("GOES", box.total(6), 4);
        return box;
    }

    /** "ORDERS by which the whole ROW is so: how many; the first one's i-th DISH; -9": no ROW, half of it, all, beyond. */
    private static void wholeRow() {
        int[] orders = {1, 1, 2, 6, 24, 120, 720};
        for (int n = 0; n <= 6; n++) {
            BoxOnARope box = n == 0 ? new BoxOnARope() : Check.told("dd10010;".repeat(n));
            check.due(n + " DISHES, no ROW: fits(-1)", box.fits(-1), orders[n]);
            for (int i = 0; i < n; i++) check.due(n + " DISHES, no ROW: fits(" + i + ")", box.fits(i), i);
            for (int go = 0; go < n; go++) {
                box.row(0);
                check.due(n + " DISHES, " + (go + 1) + " in the ROW: fits(-1)", box.fits(-1), orders[n]);
            }
            box.row(0);
            check.due(n + " DISHES, one more in the ROW: fits(-1)", box.fits(-1), 0);
            for (int i = 0; i < n; i++) check.due(n + " DISHES, one more in the ROW: fits(" + i + ")", box.fits(i), -9);
            check.due("the ROW stays", box.count(8), n + 1);
        }
        BoxOnARope box = sixInFour();
        for (int go : new int[] {0, 1, 1, 2, 3, 3}) box.row(go);
        // 6 PLATES alone, two of 3, the ROAST, two of 3; or the ROAST first and the 6 PLATES in between.
        check.due("0 1 1 2 3 3: fits(-1)", box.fits(-1), 48);
        int[] first = {0, 1, 2, 3, 4, 5};
        for (int i = 0; i < 6; i++) check.due("0 1 1 2 3 3: fits(" + i + ")", box.fits(i), first[i]);
        check.due("the ROW stays", box.judge(), 1);
    }

    /** "z becomes z times 1664525 and 1013904223 (an int); (z without its sign's bit by 256, cut) modulo m". */
    private static void drawsWrapAround() {
        int least = BoundsOf.LEAST;
        int greatest = BoundsOf.GREATEST;
        int[] seeds = {0, 1, -1, 7, greatest, least, greatest - 1, least + 1, 18, 115};
        int[][] draws = {{63, 77, 86, 39, 49}, {65, 33, 69, 70, 81}, {61, 20, 96, 7, 8}, {77, 65, 96, 60, 7}, {61, 20, 96, 7, 8},
            {63, 77, 86, 39, 49}, {59, 63, 13, 76, 68}, {65, 33, 69, 70, 81}, {0, 73, 61, 99, 27}, {99, 25, 59, 5, 78}};
        for (int c = 0; c < 5; c++) {
            BoxOnARope box = upAt500(c);
            for (int i = 0; i < seeds.length; i++) {
                check.due("COURSE " + c + ": lots(1, " + seeds[i] + ")", box.lots(1, seeds[i]), 500 - 100 * c - draws[i][c]);
            }
            check.due("what is told stays", box.begins(c, 0), 0);
        }
    }

    /** Later than any COURSE can begin, so that each draw is heard. */
    private static BoxOnARope upAt500(int course) {
        BoxOnARope box = Check.told("dk1991" + course + ";b0601720;o400;");
        check.due("UP", box.of(0, 0), 500);
        return box;
    }

    /** "N evenings (1 .. 20)": one goes on drawing where the other ended; LATE of all of them together. */
    private static void seedsAndEvenings() {
        int[][] sums = {{9065, 7014, 5114, 2992, 1097}, {9052, 6806, 4950, 3050, 1413}};
        int[] seeds = {BoundsOf.LEAST, BoundsOf.GREATEST};
        for (int c = 0; c < 5; c++) {
            BoxOnARope box = upAt500(c);
            for (int i = 0; i < 2; i++) {
                check.due("COURSE " + c + ": lots(20, " + seeds[i] + ")", box.lots(20, seeds[i]), sums[i][c]);
                check.due("COURSE " + c + ": the same once more", box.lots(20, seeds[i]), sums[i][c]);
            }
        }
        // Up when COURSE 0 begins by the draw 63, LATE by none; a SECOND later by 1.
        BoxOnARope box = Check.told("dk10010;b0600101;o062;");
        check.due("up at the begin", box.lots(1, 0), 0);
        box.set(5, 63);
        check.due("up a SECOND later", box.lots(1, 0), 1);
        check.due("the draw 0", box.lots(1, 18), 64);
        check.due("the draw 99", box.lots(1, 115), 0);
    }

    /** What is asked of all that is tried elsewhere (ORDERS, the BOX, the stairs, evenings by lot) leaves all as it is. */
    private static void askingChangesNothing() {
        for (States state : new States[] {States.SOME, States.FULL}) {
            Twins twins = new Twins(check, state::bring);
            for (int what = 0; what < 8; what++) {
                int w = what;
                twins.onlyAsks(state + ": total(" + w + ")", x -> x.total(w));
                twins.onlyAsks(state + ": best(" + w + ")", x -> x.best(w));
                for (int i = 0; i < state.dishes; i++) {
                    int place = i;
                    twins.onlyAsks(state + ": bestAt(" + w + ", " + place + ")", x -> x.bestAt(w, place));
                }
            }
            for (int what : new int[] {0, 2, 4, 5}) twins.onlyAsks(state + ": bestSet(" + what + ")", x -> x.bestSet(what));
            if (state != States.FULL) twins.onlyAsks(state + ": roomMore()", x -> x.roomMore());
            twins.onlyAsks(state + ": twoPull()", x -> x.twoPull());
            for (int what : new int[] {0, 1}) twins.onlyAsks(state + ": stairs(" + what + ")", x -> x.stairs(what));
            for (int dish = 0; dish < state.dishes; dish++) {
                int d = dish;
                twins.onlyAsks(state + ": forgotten(" + d + ")", x -> x.forgotten(d));
                twins.onlyAsks(state + ": fits(" + d + ")", x -> x.fits(d));
            }
            twins.onlyAsks(state + ": fits(-1)", x -> x.fits(-1));
            for (int z : new int[] {0, BoundsOf.LEAST, BoundsOf.GREATEST}) twins.onlyAsks(state + ": lots(20, " + z + ")", x -> x.lots(20, z));
        }
    }
}
