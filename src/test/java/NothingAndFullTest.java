/**
 * Every promise with nothing at all (no DISHES, letters, ROW, IMAGE) and with as much as there can be (6 DISHES, 96
 * letters, 12 in the ROW): what is due was worked out by hand, and calls that ask change nothing.
 */
public final class NothingAndFullTest {
    private static final Check check = new Check("NothingAndFullTest");
    private static final Twins nothing = new Twins(check, States.NOTHING::bring);
    private static final Twins full = new Twins(check, States.FULL::bring);

    public static void main(String[] args) {
        askedOfNothing();
        doneToNothing();
        nothingButAnotherBox();
        dishesOfFull();
        eveningOfFull();
        bestOfFull();
        asideOfFull();
        coursesOfFull();
        rowOfFull();
        countsOfFull();
        doneToFull();
        fullAndFullAgain();
        check.end();
    }

    /** Promises 1, 10, 11, 13, 15 to 18, 20 to 22, 25, 27 and 30, of a new object. */
    private static void askedOfNothing() {
        for (int what = 0; what < 8; what++) {
            int w = what;
            nothing.asked("nothing: total(" + w + ")", x -> x.total(w), 0);
            nothing.asked("nothing: best(" + w + ")", x -> x.best(w), 0);
        }
        int[][] sets = {{0, 1}, {2, 0}, {4, 0}, {5, 0}};
        for (int[] s : sets) nothing.asked("nothing: bestSet(" + s[0] + ")", x -> x.bestSet(s[0]), s[1]);
        nothing.asked("nothing: roomMore()", x -> x.roomMore(), 0);
        nothing.asked("nothing: twoPull()", x -> x.twoPull(), 0);
        nothing.asked("nothing: stairs(0)", x -> x.stairs(0), -9);
        nothing.asked("nothing: stairs(1)", x -> x.stairs(1), 0);
        for (int c = -1; c < 5; c++) {
            int course = c;
            nothing.asked("nothing: halved(" + c + ")", x -> x.halved(course), 0);
        }
        int[][] heard = {{0, 0}, {99, 0}, {100, 1}, {199, 1}, {200, 2}, {300, 3}, {399, 3}, {400, 4}, {999, 4}};
        for (int[] h : heard) {
            nothing.asked("nothing: heard(" + h[0] + ")", x -> x.heard(h[0]), h[1]);
            nothing.asked("nothing: waits(" + h[0] + ")", x -> x.waits(h[0]), 0);
        }
        nothing.asked("nothing: fits(-1)", x -> x.fits(-1), 1);
        nothing.asked("nothing: judge()", x -> x.judge(), -9);
        for (int n : new int[] {1, 20}) nothing.asked("nothing: lots(" + n + ", least)", x -> x.lots(n, BoundsOf.LEAST), 0);
        int[][] goes = {{0, 33}, {8, 11}, {99, 253}};
        for (int[] g : goes) nothing.asked("nothing: goes(" + g[0] + ")", x -> x.goes(g[0]), g[1]);
        int[] counts = {0, 0, 0, 6, 8, 11, 0, 0, 0, 0, -9, 0, 0, 0, 0, 0, 0, -9};
        for (int what = 0; what < counts.length; what++) {
            int w = what;
            nothing.asked("nothing: count(" + w + ")", x -> x.count(w), counts[w]);
        }
    }

    /** Promises 2, 3, 8, 9, 24, 28 and 29: what can be done to nothing. */
    private static void doneToNothing() {
        nothing.asked("nothing: kitchen()", x -> x.kitchen(), -1000);
        nothing.refused("nothing: on()", x -> x.on(), -3);
        BoxOnARope box = new BoxOnARope();
        check.due("nothing: image()", box.image(), 0);
        check.due("nothing: on()", box.on(), 0);
        check.due("nothing: letter(0)", box.letter(0), 1);
        check.due("nothing: row(0)", box.row(0), 1);
        check.due("no DISHES, one in the ROW: fits(-1)", box.fits(-1), 0);
        check.due("no DISHES, one in the ROW: judge()", box.judge(), 0);
        check.due("the ROW has none then", box.judge(), -9);
    }

    /** "5: SET OUT without DISHES", whatever the BOX is. */
    private static void nothingButAnotherBox() {
        Twins box = new Twins(check, x -> {
            for (int what = 0; what < 6; what++) x.set(what, BoundsOf.GREATEST_SET[what]);
        });
        for (int what = 0; what < 8; what++) {
            int w = what;
            box.asked("no DISHES, SET OUT 400: total(" + w + ")", x -> x.total(w), w == 5 ? 400 : 0);
            box.asked("no DISHES, SET OUT 400: best(" + w + ")", x -> x.best(w), w == 5 ? 400 : 0);
        }
        int[][] sets = {{0, 1}, {2, 0}, {4, 0}, {5, 0}};
        for (int[] s : sets) box.asked("no DISHES, all at its greatest: bestSet(" + s[0] + ")", x -> x.bestSet(s[0]), s[1]);
        box.refused("no DISHES, ROOM 11: roomMore()", x -> x.roomMore(), 1000000003);
        box.asked("no DISHES, all at its greatest: twoPull()", x -> x.twoPull(), 0);
    }

    /** Promises 4 and 5. */
    private static void dishesOfFull() {
        int[][] due = {{0, 1, 99, 1, 0, 0}, {1, 2, 99, 1, 1, 1}, {2, 3, 99, 2, 1, 2}, {3, 4, 99, 2, 2, 3}, {4, 5, 99, 2, 4, 4}, {5, 6, 99, 6, 4, 5}};
        for (int dish = 0; dish < 6; dish++) {
            int d = dish;
            full.asked("full: place(" + d + ")", x -> x.place(d), d);
            for (int what = 0; what < 6; what++) {
                int w = what;
                full.asked("full: dish(" + d + ", " + w + ")", x -> x.dish(d, w), due[d][w]);
            }
        }
    }

    /**
     * Promises 10, 11 and 12. The five that are no ROAST go together (8 PLATES, load 24, 16 apart from 40: 20 times 1 and 4
     * less 2), up at 460; the box (31 apart) is down at 580; the ROAST (load 15) is up at 680, and the box down at 800.
     */
    private static void eveningOfFull() {
        int[] totals = {1225, 361, 386, 17, 39, 800, 2, -924};
        for (int what = 0; what < 8; what++) {
            int w = what;
            full.asked("full: total(" + w + ")", x -> x.total(w), totals[w]);
        }
        int[][] each = {{460, 460, 53, 361, 0, 0, 0}, {460, 460, 53, 261, 0, 0, 8}, {460, 460, 76, 261, 0, 0, 0},
            {460, 460, 99, 161, 0, 0, 0}, {460, 499, 75, 0, 0, 39, 9}, {680, 680, 30, 181, 1, 0, 0}};
        for (int dish = 0; dish < 6; dish++) {
            for (int what = 0; what < 7; what++) {
                int d = dish;
                int w = what;
                full.asked("full: of(" + d + ", " + w + ")", x -> x.of(d, w), each[d][w]);
            }
        }
        int[][] goes = {{0, 180}, {9, 120}, {15, 100}, {24, 60}, {40, 20}, {51, 20}, {52, 40}, {99, 260}};
        for (int[] g : goes) full.asked("full: goes(" + g[0] + ")", x -> x.goes(g[0]), g[1]);
    }

    /** Promises 13, 14 and 15: down at 800 soonest in two GOES; ROOM 8 has them; what is late is late by the ORDER as it is. */
    private static void bestOfFull() {
        full.asked("full: best(0)", x -> x.best(0), 1225);
        full.asked("full: best(3)", x -> x.best(3), 17);
        full.asked("full: best(5)", x -> x.best(5), 800);
        full.asked("full: best(6)", x -> x.best(6), 2);
        full.asked("full: best(7)", x -> x.best(7), -924);
        for (int what : new int[] {0, 3, 5, 6, 7}) {
            for (int place = 0; place < 6; place++) {
                int i = place;
                full.asked("full: bestAt(" + what + ", " + i + ")", x -> x.bestAt(what, i), i);
            }
        }
        full.asked("full: bestSet(0)", x -> x.bestSet(0), 8);
        full.asked("full: bestSet(4)", x -> x.bestSet(4), 2);
        full.asked("full: bestSet(5)", x -> x.bestSet(5), 0);
    }

    /**
     * Promises 16 to 19. PULLS 10: up at 430 and 540. The ROAST by the stairs is up at 460, 181 less LATE and 19 warmer, 10
     * for what it SLOPS; any other leaves the GO lighter, no sooner. The first one last of all is up at 920.
     */
    private static void asideOfFull() {
        full.refused("full: roomMore()", x -> x.roomMore(), 1000000003);
        full.asked("full: twoPull()", x -> x.twoPull(), 282);
        full.asked("full: stairs(0)", x -> x.stairs(0), 5);
        full.asked("full: stairs(1)", x -> x.stairs(1), 190);
        full.asked("full: forgotten(0)", x -> x.forgotten(0), 506);
        full.asked("full: forgotten(5)", x -> x.forgotten(5), 0);
    }

    /** Promises 20 to 23: COURSES begin at 99, 199, 299, 399, 499; of COURSE 4 one is up at 460, one at 680. */
    private static void coursesOfFull() {
        int[] halved = {1, 0, 0, 0, 0, 1};
        for (int c = -1; c < 5; c++) {
            int course = c;
            full.asked("full: halved(" + c + ")", x -> x.halved(course), halved[c + 1]);
        }
        int[][] due = {{0, -9, 0}, {98, -9, 0}, {99, 0, 1}, {198, 0, 1}, {199, 1, 7}, {298, 1, 7}, {299, 2, 15}, {399, 3, 15}, {459, 3, 15},
            {460, 3, 0}, {498, 3, 0}, {499, 4, 32}, {679, 4, 32}, {680, 4, 0}, {999, 4, 0}};
        for (int[] d : due) {
            full.asked("full: heard(" + d[0] + ")", x -> x.heard(d[0]), d[1]);
            full.asked("full: waits(" + d[0] + ")", x -> x.waits(d[0]), d[2]);
        }
        int[][] send = {{0, 39}, {1, 139}, {2, 239}, {4, 219}};
        for (int[] s : send) full.asked("full: send(" + s[0] + ")", x -> x.send(s[0]), s[1]);
    }

    /** Promises 24 to 26: the first six are so, what is beyond is not. */
    private static void rowOfFull() {
        full.asked("full: fits(-1)", x -> x.fits(-1), 0);
        for (int place = 0; place < 6; place++) {
            int i = place;
            full.asked("full: fits(" + i + ")", x -> x.fits(i), -9);
        }
        BoxOnARope box = full.brought();
        check.due("full: judge()", box.judge(), 6);
        check.due("full: the ROW has none then", box.count(8), 0);
        for (int go : new int[] {0, 0, 0, 0, 0, 1}) box.row(go);
        // The five that go together stand in any ORDER; only the ROAST is last.
        check.due("full: fits(-1) of the first six", box.fits(-1), 120);
        check.due("full: judge() of the first six", box.judge(), -9);
    }

    /** Promise 30. */
    private static void countsOfFull() {
        int[] due = {6, 21, 14, 11, 40, 20, 2, 400, 12, 96, -9, 0, 0, 0, 0, 0, 0, -9};
        for (int what = 0; what < due.length; what++) {
            int w = what;
            full.asked("full: count(" + w + ")", x -> x.count(w), due[w]);
        }
        BoxOnARope box = Check.told("dd90060;".repeat(6));
        check.due("all WEIGHTS at their greatest", box.count(1), 54);
        check.due("all PLATES at their greatest", box.count(2), 36);
    }

    /** Promises 2, 3, 6, 28 and 29. */
    private static void doneToFull() {
        BoxOnARope box = full.brought();
        check.due("full: letter('h')", box.letter('h'), -6);
        check.due("full: row(0)", box.row(0), -6);
        check.due("full: kitchen()", box.kitchen(), 27);
        check.is("full: ORDER by its letters", Check.orderOf(box).equals("512340"));
        check.due("full: change(5, 0)", box.change(5, 0), 5);
        check.due("full: image()", box.image(), 6);
        check.due("full: a DISH more", Check.tell(box, "dd10010;"), -2000);
        check.due("full: change(0, 5)", box.change(0, 5), 5);
        check.due("full: on()", box.on(), 6);
        check.is("full: ORDER by its IMAGE", Check.orderOf(box).equals("012345"));
    }

    /** Behind a full text, a full ROW and a full KITCHEN taken back, all of it goes once more. */
    private static void fullAndFullAgain() {
        BoxOnARope box = new BoxOnARope();
        box.image();
        for (int turn = 0; turn < 2; turn++) {
            check.due("all six", Check.tell(box, "dd10010;".repeat(6) + "h1;".repeat(16)), 22);
            for (int n = 1; n <= 12; n++) check.due("row " + n, box.row(0), n);
            check.due("a 13th", box.row(0), -6);
            check.due("judge()", box.judge(), 6);
            check.due("on()", box.on(), 0);
        }
        check.due("counted -6", box.count(16), 2);
    }
}
