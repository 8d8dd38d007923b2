/** Promises 1 to 3: a new object, letters, and what they become. */
public final class TellingTest {
    private static final Check check = new Check("TellingTest");
    private static final String SIX = "dd10010;ds10010;dl10010;dk10010;dg10010;da10010;";

    public static void main(String[] args) {
        newObject();
        letters();
        statements();
        edgesThatAreWell();
        faultsOfLetters();
        faultsOfStatements();
        faultsLeaveNothing();
        check.end();
    }

    private static void newObject() {
        BoxOnARope box = new BoxOnARope();
        int[] due = {0, 0, 0, 6, 8, 11, 0, 0, 0, 0, -9, 0, 0, 0, 0, 0, 0, -9};
        for (int what = 0; what < due.length; what++) check.due("new: count(" + what + ")", box.count(what), due[what]);
        check.due("new: set(1, 3)", box.set(1, 3), 3);
        for (int c = 0; c < 5; c++) check.due("new: begins(" + c + ", 0)", box.begins(c, 0), 0);
        check.due("new: place(0)", box.place(0), -1);
        check.due("new: on()", box.on(), -3);
    }

    private static void letters() {
        BoxOnARope box = new BoxOnARope();
        check.due("letter(0)", box.letter(0), 1);
        check.due("letter(255)", box.letter(255), 2);
        check.due("letter(-1)", box.letter(-1), -4);
        check.due("letter(least)", box.letter(Integer.MIN_VALUE), -4);
        check.due("letter(256)", box.letter(256), -6);
        check.due("letter(greatest)", box.letter(Integer.MAX_VALUE), -6);
        check.due("letters refused do not come", box.count(9), 2);
        for (int n = 3; n <= 96; n++) check.due("letter " + n, box.letter('x'), n);
        check.due("a 97th letter", box.letter('x'), -6);
        check.due("a 97th letter below", box.letter(-1), -4);
        check.due("a 97th letter above", box.letter(256), -6);
        check.due("still", box.count(9), 96);
        check.due("refused below", box.count(14), 3);
        check.due("refused above", box.count(16), 4);
    }

    private static void statements() {
        BoxOnARope box = new BoxOnARope();
        check.due("all kinds of statement", Check.tell(box, "ds48030;dd27021;b0722315;c145;h2;o123;x01;"), 7);
        check.due("letters are no more", box.count(9), 0);
        check.due("DISHES", box.count(0), 2);
        int[][] due = {{1, 4, 80, 3, 0, 1}, {0, 2, 70, 2, 1, 0}};
        for (int d = 0; d < 2; d++) {
            for (int what = 0; what < 6; what++) check.due("dish(" + d + ", " + what + ")", box.dish(d, what), due[d][what]);
        }
        check.due("ROOM", box.count(3), 7);
        check.due("SELF", box.set(1, 0), 2);
        check.due("BALANCE", box.count(4), 23);
        check.due("PULLS", box.count(5), 15);
        check.due("HASTE", box.count(6), 2);
        check.due("SET OUT", box.count(7), 123);
        check.due("BEGINS of 1", box.begins(1, 0), 45);
        check.due("a second KITCHEN comes to the first", Check.tell(box, "da99964;x02;"), 2);
        check.due("its DISH is the third", box.dish(2, 0), 5);
        check.is("last in ORDER, then changed with 0: 1 2 0, not " + Check.orderOf(box), Check.orderOf(box).equals("120"));
    }

    private static void edgesThatAreWell() {
        String[] texts = {"dd10010;", "da99964;", "dk50932;", "b0100001;", "b1194020;", "c000;", "c499;", "h0;", "h2;", "o000;", "o400;", SIX};
        int[] due = {1, 1, 1, 1, 1, 1, 1, 1, 1, 1, 1, 6};
        for (int i = 0; i < texts.length; i++) check.due(texts[i], Check.tell(new BoxOnARope(), texts[i]), due[i]);
        check.due("96 letters", Check.tell(new BoxOnARope(), "h1;".repeat(32)), 32);
        BoxOnARope box = Check.told(SIX);
        for (int d = 0; d < 6; d++) check.due("KIND " + d, box.dish(d, 0), d);
        check.due("HEAT of two digits", Check.told("dd10910;").dish(0, 2), 9);
        check.due("first and last change", Check.tell(box, "x50;"), 1);
        check.is("ORDER is 5 1 2 3 4 0, not " + Check.orderOf(box), Check.orderOf(box).equals("512340"));
    }

    private static void faultsOfLetters() {
        String[] texts = {"", "q", ";", "D", " h1;", "d", "dd", "dq", "dd1", "dd1001;", "dd100100", "dd10010", "ddx", "dd/", "dd:",
            "b", "b060308;", "b06030811", "b06030811;", "c", "c0;", "c0000", "h", "h;", "h1", "h11", "h1:", "h/;", "h:;", "o40;", "o4000",
            "x", "x0;", "x011", "h1;h", "h1;;", "h1;q", "h3;q", "h3;h", "h1;h9;dd00090", "h1;" + (char) 0, "h" + (char) 255};
        int[] due = {0, 0, 0, 0, 0, 1, 2, 1, 3, 6, 7, 7, 2, 2, 2,
            1, 7, 8, 8, 1, 2, 4, 1, 1, 2, 2, 2, 1, 1, 3, 4,
            1, 2, 3, 4, 3, 3, 3, 4, 13, 3, 1};
        for (int i = 0; i < texts.length; i++) {
            BoxOnARope box = new BoxOnARope();
            check.due("FAULT of letters in '" + texts[i] + "'", Check.tell(box, texts[i]), -1000 - due[i]);
            check.due("letters behind '" + texts[i] + "'", box.count(9), 0);
        }
        check.due("96 letters that lack their end", Check.tell(new BoxOnARope(), "h1;".repeat(31) + "c12"), -1096);
    }

    private static void faultsOfStatements() {
        String[] texts = {"dd00010;", "dd10000;", "dd10070;", "dd10015;", "b0030811;", "b1230811;", "b0634111;", "b0630800;", "b0630821;",
            "c500;", "h3;", "o401;", "o999;", "x00;", "x01;", "dd10010;x00;", "dd10010;x01;", "dd10010;x10;", "x01;dd10010;dd10010;",
            SIX + "dd10010;", SIX + "x05;x06;", "h1;o400;c500;h3;", "h1;h2;h9;"};
        int[] due = {0, 0, 0, 0, 0, 0, 0, 0, 0,
            0, 0, 0, 0, 0, 0, 8, 8, 8, 0,
            48, 52, 8, 6};
        for (int i = 0; i < texts.length; i++) {
            check.due("FAULT of statements in '" + texts[i] + "'", Check.tell(new BoxOnARope(), texts[i]), -2000 - due[i]);
        }
        BoxOnARope box = Check.told(SIX);
        check.due("no room for a seventh", Check.tell(box, "h1;da10010;"), -2003);
        check.due("six stay", box.count(0), 6);
    }

    private static void faultsLeaveNothing() {
        BoxOnARope box = Check.told("dd12344;ds10010;");
        int[] due = {2, 2, 5, 6, 8, 11, 0, 0, 0, 0};
        check.due("FAULT of the last statement", Check.tell(box, "dl10010;b0101001;c399;h2;o300;x01;h3;"), -2034);
        check.due("FAULT of the last letter", Check.tell(box, "dl10010;b0101001;c399;h2;o300;x01;h2"), -1036);
        check.due("DISHES stay", box.count(0), 2);
        check.is("ORDER stays", Check.orderOf(box).equals("01"));
        check.due("BEGINS stays", box.begins(3, 0), 0);
        check.due("SELF stays", box.set(1, 3), 3);
        for (int what = 0; what < due.length; what++) check.due("behind a FAULT: count(" + what + ")", box.count(what), due[what]);
        for (int what = 11; what <= 16; what++) check.due("a FAULT is not counted: count(" + what + ")", box.count(what), 0);
    }
}
