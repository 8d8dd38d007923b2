/**
 * "The least and the greatest of every number of a DISH, of the BOX, of a COURSE": every number that a statement's digits
 * can say, and every number that a call can be told, is looked at; those within the bounds come, those without do not.
 */
public final class BoundsTest {
    private static final Check check = new Check("BoundsTest");
    private static final String DISH = "dd10010;";
    private static final String BOX = "b0630811;";

    public static void main(String[] args) {
        numbersOfADish();
        numbersOfTheBox();
        numbersOfACourse();
        hasteAndSetOut();
        dishesThatChange();
        toldByCalls();
        atFirst();
        check.end();
    }

    /** How what a statement tells is heard. */
    private interface Heard {
        int of(BoxOnARope box);
    }

    /** The statement with each number at its place: within least .. greatest it comes, else its FAULT is of kind 2. */
    private static void everyNumber(String what, String statement, int at, int digits, int least, int greatest, Heard heard) {
        int numbers = digits == 1 ? 10 : digits == 2 ? 100 : 1000;
        for (int v = 0; v < numbers; v++) {
            String text = statement.substring(0, at) + String.format("%0" + digits + "d", v) + statement.substring(at + digits);
            boolean within = v >= least && v <= greatest;
            BoxOnARope box = new BoxOnARope();
            int before = heard.of(box);
            check.due(what + " in " + text, Check.tell(box, text), within ? 1 : -2000);
            check.due(what + " behind " + text, heard.of(box), within ? v : before);
            check.due(what + " in " + text + " behind a good one", Check.tell(new BoxOnARope(), "h1;" + text), within ? 2 : -2003);
        }
    }

    /** "WEIGHT (1 .. 9), HEAT (0 .. 99), PLATES (1 .. 6), COURSE (0 .. 4)". */
    private static void numbersOfADish() {
        everyNumber("WEIGHT", DISH, 2, 1, 1, 9, x -> x.dish(0, 1));
        everyNumber("HEAT", DISH, 3, 2, 0, 99, x -> x.dish(0, 2));
        everyNumber("PLATES", DISH, 5, 1, 1, 6, x -> x.dish(0, 3));
        everyNumber("COURSE", DISH, 6, 1, 0, 4, x -> x.dish(0, 4));
    }

    /** "ROOM (1 .. 11 PLATES), SELF (0 .. 9), BALANCE (0 .. 40), PULLS (1 .. 20)". */
    private static void numbersOfTheBox() {
        everyNumber("ROOM", BOX, 1, 2, 1, 11, x -> x.count(3));
        everyNumber("SELF", BOX, 3, 1, 0, 9, BoundsTest::self);
        everyNumber("BALANCE", BOX, 4, 2, 0, 40, x -> x.count(4));
        everyNumber("PULLS", BOX, 6, 2, 1, 20, x -> x.count(5));
    }

    private static int self(BoxOnARope box) {
        int v = box.set(1, 0);
        box.set(1, v);
        return v;
    }

    /** "BEGINS at SECOND 100 c and what is told for it (0 .. 99)", of COURSES 0 .. 4. */
    private static void numbersOfACourse() {
        for (int e = 0; e < 5; e++) {
            int c = e;
            everyNumber("BEGINS", "c" + c + "00;", 2, 2, 0, 99, x -> told(x, c));
        }
        for (int c = 0; c < 10; c++) {
            BoxOnARope box = new BoxOnARope();
            check.due("c" + c + "99;", Check.tell(box, "c" + c + "99;"), c <= 4 ? 1 : -2000);
            for (int other = 0; other < 5; other++) check.due("c" + c + "99; for " + other, told(box, other), other == c ? 99 : 0);
        }
    }

    private static int told(BoxOnARope box, int course) {
        int v = box.begins(course, 0);
        box.begins(course, v);
        return v;
    }

    /** "HASTE (0 .. 2)", "SET OUT at SECOND (0 .. 400)". */
    private static void hasteAndSetOut() {
        everyNumber("HASTE", "h0;", 1, 1, 0, 2, x -> x.count(6));
        everyNumber("SET OUT", "o000;", 1, 3, 0, 400, x -> x.count(7));
    }

    /** "x" with every two digits and every number of DISHES ahead of it: two that there are, not one twice. */
    private static void dishesThatChange() {
        for (int dishes = 0; dishes <= 6; dishes++) {
            for (int one = 0; one < 10; one++) {
                for (int other = 0; other < 10; other++) {
                    String text = DISH.repeat(dishes) + "x" + one + other + ";";
                    boolean well = one < dishes && other < dishes && one != other;
                    BoxOnARope box = new BoxOnARope();
                    check.due(text, Check.tell(box, text), well ? dishes + 1 : -2000 - 8 * dishes);
                    if (well) check.due(text + ", then place(" + one + ")", box.place(one), other);
                    if (well) check.due(text + ", then place(" + other + ")", box.place(other), one);
                }
            }
        }
    }

    /** Promises 7, 8 and 9: each number within is taken, and answered as what it was when the next one is told. */
    private static void toldByCalls() {
        for (int what = 0; what < 6; what++) {
            BoxOnARope box = new BoxOnARope();
            box.set(what, BoundsOf.GREATEST_SET[what]);
            int was = BoundsOf.GREATEST_SET[what];
            for (int v = BoundsOf.LEAST_SET[what]; v <= BoundsOf.GREATEST_SET[what]; v++) {
                check.due("set(" + what + ", " + v + ")", box.set(what, v), was);
                was = v;
            }
            noneRefused("set(" + what + ", ..)", box);
        }
        for (int e = 0; e < 6; e++) {
            BoxOnARope box = Check.told(DISH.repeat(6));
            for (int v = 0; v <= 99; v++) {
                check.due("heat(" + e + ", " + v + ")", box.heat(e, v), v == 0 ? 0 : v - 1);
                check.due("dish(" + e + ", 2)", box.dish(e, 2), v);
                if (e < 5) check.due("begins(" + e + ", " + v + ")", box.begins(e, v), v == 0 ? 0 : v - 1);
            }
            for (int d = 0; d < 6; d++) check.due("HEAT of " + d + " by heat(" + e + ", 99)", box.dish(d, 2), d == e ? 99 : 0);
            noneRefused("heat(" + e + ", ..)", box);
        }
    }

    private static void noneRefused(String what, BoxOnARope box) {
        for (int n = 11; n <= 16; n++) check.due(what + ", then count(" + n + ")", box.count(n), 0);
    }

    /** "6 PLATES at first", "3 at first", "8 at first", "11 at first", "0 at first". */
    private static void atFirst() {
        int[] due = {6, 3, 8, 11, 0, 0};
        BoxOnARope box = new BoxOnARope();
        for (int what = 0; what < 6; what++) check.due("at first: set(" + what + ", 1)", box.set(what, 1), due[what]);
        for (int c = 0; c < 5; c++) check.due("at first: begins(" + c + ", 1)", box.begins(c, 1), 0);
    }
}
