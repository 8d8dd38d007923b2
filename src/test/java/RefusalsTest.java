/**
 * REFUSALS: in each state each call that is refused answers its number, it is counted once, and nothing else changes.
 * The numbers refused are the one just outside of each bound and those farther out, to the least and the greatest int.
 */
public final class RefusalsTest {
    private static final Check check = new Check("RefusalsTest");
    private static final int OTHER_LARGE = 1000000002;
    private static final int NOBODY_LARGE = 1000000001;
    private static final int STATE_LARGE = 1000000003;

    private final States state;
    private final Twins twins;
    private final int[] noDish;

    private RefusalsTest(States state) {
        this.state = state;
        twins = new Twins(check, state::bring);
        noDish = BoundsOf.outside(0, state.dishes - 1);
    }

    public static void main(String[] args) {
        for (States state : States.values()) new RefusalsTest(state).all();
        firstOfTwo();
        countedByKind();
        check.end();
    }

    private void all() {
        check.due(state + " is as it is told", twins.brought().count(0), state.dishes);
        letterAndRow();
        dishPlaceChange();
        heatAndBegins();
        set();
        seconds();
        whats();
        dishes();
        courses();
        fits();
        lots();
        states();
        countRefusesNothing();
    }

    private void refused(String call, int answer, Twins.Call it) {
        twins.refused(state + ": " + call, it, answer);
    }

    /** Promises 2 and 24: "-4; -6 (255; 96, too)" and "-4; -6 (99; 12, too)". */
    private void letterAndRow() {
        for (int c : BoundsOf.below(0)) refused("letter(" + c + ")", -4, x -> x.letter(c));
        for (int c : BoundsOf.above(255)) refused("letter(" + c + ")", -6, x -> x.letter(c));
        for (int v : BoundsOf.below(0)) refused("row(" + v + ")", -4, x -> x.row(v));
        for (int v : BoundsOf.above(99)) refused("row(" + v + ")", -6, x -> x.row(v));
        if (state != States.FULL) return;
        for (int c : new int[] {0, ';', 'd', 255}) refused("letter(" + c + ")", -6, x -> x.letter(c));
        for (int v : new int[] {0, 1, 99}) refused("row(" + v + ")", -6, x -> x.row(v));
    }

    /** Promises 4, 5 and 6: "-1; -2", "-1", "-1 either (one twice, too)". */
    private void dishPlaceChange() {
        for (int d : noDish) {
            for (int what : new int[] {0, 5}) refused("dish(" + d + ", " + what + ")", -1, x -> x.dish(d, what));
            refused("place(" + d + ")", -1, x -> x.place(d));
            for (int e = 0; e < state.dishes; e++) {
                int other = e;
                refused("change(" + d + ", " + e + ")", -1, x -> x.change(d, other));
                refused("change(" + e + ", " + d + ")", -1, x -> x.change(other, d));
            }
            for (int e : noDish) refused("change(" + d + ", " + e + ")", -1, x -> x.change(d, e));
        }
        for (int e = 0; e < state.dishes; e++) {
            int d = e;
            refused("change(" + d + ", itself)", -1, x -> x.change(d, d));
            for (int what : BoundsOf.outside(0, 5)) refused("dish(" + d + ", " + what + ")", -2, x -> x.dish(d, what));
        }
    }

    /** Promises 7 and 8: "-1; -4; -6 99". */
    private void heatAndBegins() {
        for (int d : noDish) refused("heat(" + d + ", 50)", -1, x -> x.heat(d, 50));
        for (int c : BoundsOf.outside(0, 4)) refused("begins(" + c + ", 50)", -1, x -> x.begins(c, 50));
        for (int v : BoundsOf.outside(0, 99)) {
            int answer = v < 0 ? -4 : -6;
            for (int e = 0; e < state.dishes; e++) {
                int d = e;
                refused("heat(" + d + ", " + v + ")", answer, x -> x.heat(d, v));
            }
            for (int e = 0; e < 5; e++) {
                int c = e;
                refused("begins(" + c + ", " + v + ")", answer, x -> x.begins(c, v));
            }
        }
    }

    /** Promise 9: "-2; -4 (1; 0; 0; 1; 0; 0); -6 (11; 9; 40; 20; 2; 400)". */
    private void set() {
        for (int what : BoundsOf.outside(0, 5)) refused("set(" + what + ", 1)", -2, x -> x.set(what, 1));
        for (int w = 0; w < 6; w++) {
            int what = w;
            for (int v : BoundsOf.below(BoundsOf.LEAST_SET[w])) refused("set(" + w + ", " + v + ")", -4, x -> x.set(what, v));
            for (int v : BoundsOf.above(BoundsOf.GREATEST_SET[w])) refused("set(" + w + ", " + v + ")", -6, x -> x.set(what, v));
        }
    }

    /** Promises 10, 21 and 22: "-4; -6 99" and "-4; -6 999". */
    private void seconds() {
        for (int v : BoundsOf.below(0)) {
            refused("goes(" + v + ")", -4, x -> x.goes(v));
            refused("heard(" + v + ")", -4, x -> x.heard(v));
            refused("waits(" + v + ")", -4, x -> x.waits(v));
        }
        for (int v : BoundsOf.above(99)) refused("goes(" + v + ")", -6, x -> x.goes(v));
        for (int v : BoundsOf.above(999)) {
            refused("heard(" + v + ")", -6, x -> x.heard(v));
            refused("waits(" + v + ")", -6, x -> x.waits(v));
        }
    }

    /** Promises 11, 13, 14, 15 and 18: "Refused as told: -2", "-2" and "-2 another what". */
    private void whats() {
        for (int what : BoundsOf.outside(0, 7)) {
            refused("total(" + what + ")", OTHER_LARGE, x -> x.total(what));
            refused("best(" + what + ")", OTHER_LARGE, x -> x.best(what));
            refused("bestAt(" + what + ", 0)", -2, x -> x.bestAt(what, 0));
        }
        for (int what : BoundsOf.outside(0, 5)) refused("bestSet(" + what + ")", -2, x -> x.bestSet(what));
        for (int what : new int[] {1, 3}) refused("bestSet(" + what + ")", -2, x -> x.bestSet(what));
        for (int what : BoundsOf.outside(0, 1)) refused("stairs(" + what + ")", OTHER_LARGE, x -> x.stairs(what));
    }

    /** Promises 12, 14 and 19: "-1; -2", "-1 no such place" and "Refused as told: -1". */
    private void dishes() {
        for (int d : noDish) {
            for (int what : new int[] {0, 6}) refused("of(" + d + ", " + what + ")", -1, x -> x.of(d, what));
            for (int what : new int[] {0, 7}) refused("bestAt(" + what + ", " + d + ")", -1, x -> x.bestAt(what, d));
            refused("forgotten(" + d + ")", NOBODY_LARGE, x -> x.forgotten(d));
        }
        for (int e = 0; e < state.dishes; e++) {
            int d = e;
            for (int what : BoundsOf.outside(0, 6)) refused("of(" + d + ", " + what + ")", -2, x -> x.of(d, what));
        }
    }

    /** Promises 20 and 23: "-4 below -1; -1 no such COURSE" and "-1; -3 no DISH is of it". */
    private void courses() {
        for (int c : BoundsOf.below(-1)) refused("halved(" + c + ")", -4, x -> x.halved(c));
        for (int c : BoundsOf.above(4)) refused("halved(" + c + ")", -1, x -> x.halved(c));
        for (int c : BoundsOf.outside(0, 4)) refused("send(" + c + ")", -1, x -> x.send(c));
        for (int c : state.coursesOfNobody) refused("send(" + c + ")", -3, x -> x.send(c));
    }

    /** Promise 25: "-4 below -1; -1 no such place". */
    private void fits() {
        for (int i : BoundsOf.below(-1)) refused("fits(" + i + ")", -4, x -> x.fits(i));
        for (int i : BoundsOf.above(state.dishes - 1)) refused("fits(" + i + ")", -1, x -> x.fits(i));
    }

    /** Promise 27: "-4; -6 20", whatever the seed. */
    private void lots() {
        for (int z : new int[] {0, -1, BoundsOf.LEAST, BoundsOf.GREATEST}) {
            for (int n : BoundsOf.below(1)) refused("lots(" + n + ", " + z + ")", -4, x -> x.lots(n, z));
            for (int n : BoundsOf.above(20)) refused("lots(" + n + ", " + z + ")", -6, x -> x.lots(n, z));
        }
    }

    /** Promises 16 and 29: "-3 ROOM is 11" and "-3 there is none". */
    private void states() {
        if (state == States.FULL) refused("roomMore()", STATE_LARGE, x -> x.roomMore());
        if (state == States.NOTHING) refused("on()", -3, x -> x.on());
    }

    /** Promise 30: "-9 for another what": an answer, not a refusal. */
    private void countRefusesNothing() {
        for (int what : BoundsOf.outside(0, 16)) twins.asked(state + ": count(" + what + ")", x -> x.count(what), -9);
        twins.asked(state + ": count(10)", x -> x.count(10), -9);
    }

    /** "The first that fits in the order in which it tells them": each call in which two can fit. */
    private static void firstOfTwo() {
        new RefusalsTest(States.NOTHING).firstOfTwoHere();
        new RefusalsTest(States.SOME).firstOfTwoHere();
        RefusalsTest full = new RefusalsTest(States.FULL);
        full.firstOfTwoHere();
        for (int v : BoundsOf.below(0)) {
            full.refused("no room and below: letter(" + v + ")", -4, x -> x.letter(v));
            full.refused("no room and below: row(" + v + ")", -4, x -> x.row(v));
        }
        full.refused("no room and above: letter(256)", -6, x -> x.letter(256));
        full.refused("no room and above: row(100)", -6, x -> x.row(100));
    }

    private void firstOfTwoHere() {
        for (int d : noDish) {
            for (int what : BoundsOf.outside(0, 6)) {
                refused("dish(" + d + ", " + what + ")", -1, x -> x.dish(d, what));
                refused("of(" + d + ", " + what + ")", -1, x -> x.of(d, what));
            }
            for (int v : BoundsOf.outside(0, 99)) refused("heat(" + d + ", " + v + ")", -1, x -> x.heat(d, v));
            for (int what : BoundsOf.outside(0, 7)) refused("bestAt(" + what + ", " + d + ")", -2, x -> x.bestAt(what, d));
        }
        for (int c : BoundsOf.outside(0, 4)) {
            for (int v : BoundsOf.outside(0, 99)) refused("begins(" + c + ", " + v + ")", -1, x -> x.begins(c, v));
        }
        for (int what : BoundsOf.outside(0, 5)) {
            for (int v : BoundsOf.outside(0, 400)) refused("set(" + what + ", " + v + ")", -2, x -> x.set(what, v));
        }
    }

    /** "How many there were (count 11 .. 16)": each by its number, all at once; -5 is no refusal of any call. */
    private static void countedByKind() {
        BoxOnARope box = new BoxOnARope();
        for (int n = 0; n < 1; n++) box.forgotten(0);
        for (int n = 0; n < 2; n++) box.total(8);
        for (int n = 0; n < 3; n++) box.on();
        for (int n = 0; n < 4; n++) box.lots(0, 0);
        for (int n = 0; n < 6; n++) box.heard(1000);
        int[] due = {1, 2, 3, 4, 0, 6};
        for (int what = 11; what <= 16; what++) check.due("count(" + what + ")", box.count(what), due[what - 11]);
        box.set(0, 11);
        box.roomMore();
        check.due("roomMore() with ROOM 11 is counted with -3", box.count(13), 4);
        BoxOnARope often = new BoxOnARope();
        for (int n = 0; n < 511; n++) often.goes(-1);
        check.due("511 refusals, heard in the 512th call", often.count(14), 511);
    }
}
