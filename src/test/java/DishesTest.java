/** Promises 4 to 9: what dishes are, and what is changed of them, of courses and of the box. */
public final class DishesTest {
    private static final Check check = new Check("DishesTest");
    private static final int LEAST = Integer.MIN_VALUE;
    private static final int GREATEST = Integer.MAX_VALUE;

    public static void main(String[] args) {
        dish();
        place();
        change();
        heat();
        begins();
        set();
        check.end();
    }

    private static void dish() {
        BoxOnARope box = Check.told("dg98764;dd10010;");
        int[] due = {4, 9, 87, 6, 4, 0};
        for (int what = 0; what < 6; what++) check.due("dish(0, " + what + ")", box.dish(0, what), due[what]);
        check.due("dish(1, 5)", box.dish(1, 5), 1);
        check.due("dish(2, 0)", box.dish(2, 0), -1);
        check.due("dish(-1, 0)", box.dish(-1, 0), -1);
        check.due("dish(0, 6)", box.dish(0, 6), -2);
        check.due("dish(0, -1)", box.dish(0, -1), -2);
        check.due("dish(least, least)", box.dish(LEAST, LEAST), -1);
        check.due("dish(0, greatest)", box.dish(0, GREATEST), -2);
        check.due("NOBODY is told ahead of OTHER", box.dish(6, 6), -1);
        check.due("counted -1", box.count(11), 4);
        check.due("counted -2", box.count(12), 3);
    }

    private static void place() {
        BoxOnARope box = Check.told("dd10010;dd10010;dd10010;x02;");
        int[] due = {2, 1, 0};
        for (int i = 0; i < 3; i++) check.due("place(" + i + ")", box.place(i), due[i]);
        check.due("place(3)", box.place(3), -1);
        check.due("place(-1)", box.place(-1), -1);
        check.due("place(greatest)", box.place(GREATEST), -1);
        check.due("counted -1", box.count(11), 3);
    }

    private static void change() {
        BoxOnARope box = Check.told("dd10010;dd10010;dd10010;dd10010;");
        check.due("change(0, 2)", box.change(0, 2), 2);
        check.is("ORDER is 2 1 0 3", Check.orderOf(box).equals("2103"));
        check.due("change(3, 0)", box.change(3, 0), 2);
        check.is("ORDER is 2 1 3 0", Check.orderOf(box).equals("2130"));
        check.due("dish(3, 5)", box.dish(3, 5), 2);
        check.due("change(2, 1)", box.change(2, 1), 1);
        check.due("change(1, 1)", box.change(1, 1), -1);
        check.due("change(1, 4)", box.change(1, 4), -1);
        check.due("change(4, 1)", box.change(4, 1), -1);
        check.due("change(-1, 1)", box.change(-1, 1), -1);
        check.due("change(1, -1)", box.change(1, -1), -1);
        check.is("ORDER is 1 2 3 0 still", Check.orderOf(box).equals("1230"));
        check.due("counted -1", box.count(11), 5);
    }

    private static void heat() {
        BoxOnARope box = Check.told("dd17010;dd15010;");
        check.due("heat(0, 99)", box.heat(0, 99), 70);
        check.due("heat(0, 0)", box.heat(0, 0), 99);
        check.due("dish(0, 2)", box.dish(0, 2), 0);
        check.due("dish(1, 2)", box.dish(1, 2), 50);
        check.due("heat(0, 100)", box.heat(0, 100), -6);
        check.due("heat(0, -1)", box.heat(0, -1), -4);
        check.due("heat(2, 5)", box.heat(2, 5), -1);
        check.due("heat(-1, 5)", box.heat(-1, 5), -1);
        check.due("heat(2, -1)", box.heat(2, -1), -1);
        check.due("heat(2, 100)", box.heat(2, 100), -1);
        check.due("refused HEAT does not come", box.dish(0, 2), 0);
        check.due("counted -1", box.count(11), 4);
        check.due("counted -4", box.count(14), 1);
        check.due("counted -6", box.count(16), 1);
    }

    private static void begins() {
        BoxOnARope box = new BoxOnARope();
        check.due("begins(0, 99)", box.begins(0, 99), 0);
        check.due("begins(4, 7)", box.begins(4, 7), 0);
        check.due("begins(0, 0)", box.begins(0, 0), 99);
        check.due("begins(4, 8)", box.begins(4, 8), 7);
        check.due("begins(5, 0)", box.begins(5, 0), -1);
        check.due("begins(-1, 0)", box.begins(-1, 0), -1);
        check.due("begins(5, -1)", box.begins(5, -1), -1);
        check.due("begins(5, 100)", box.begins(5, 100), -1);
        check.due("begins(0, -1)", box.begins(0, -1), -4);
        check.due("begins(0, 100)", box.begins(0, 100), -6);
        check.due("refused, it does not come", box.begins(0, 1), 0);
        check.due("counted -1", box.count(11), 4);
        check.due("counted -4", box.count(14), 1);
        check.due("counted -6", box.count(16), 1);
    }

    private static void set() {
        int[] least = {1, 0, 0, 1, 0, 0};
        int[] greatest = {11, 9, 40, 20, 2, 400};
        int[] first = {6, 3, 8, 11, 0, 0};
        BoxOnARope box = new BoxOnARope();
        for (int what = 0; what < 6; what++) {
            check.due("set(" + what + ", least)", box.set(what, least[what]), first[what]);
            check.due("set(" + what + ", greatest)", box.set(what, greatest[what]), least[what]);
            check.due("set(" + what + ", below)", box.set(what, least[what] - 1), -4);
            check.due("set(" + what + ", above)", box.set(what, greatest[what] + 1), -6);
            check.due("set(" + what + ", far below)", box.set(what, LEAST), -4);
            check.due("set(" + what + ", far above)", box.set(what, GREATEST), -6);
        }
        int[] then = {11, 40, 20, 2, 400};
        for (int what = 3; what < 8; what++) check.due("count(" + what + ")", box.count(what), then[what - 3]);
        check.due("set(1, 1)", box.set(1, 1), 9);
        check.due("set(6, 0)", box.set(6, 0), -2);
        check.due("set(-1, 0)", box.set(-1, 0), -2);
        check.due("OTHER is told ahead of BELOW", box.set(6, -1), -2);
        check.due("OTHER is told ahead of ROOM", box.set(LEAST, GREATEST), -2);
        check.due("counted -2", box.count(12), 4);
        check.due("counted -4", box.count(14), 12);
        check.due("counted -6", box.count(16), 12);
    }
}
