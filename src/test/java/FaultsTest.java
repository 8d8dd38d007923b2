/** "FAULT: kind 1 ..; else kind 2 ..": every letter at every place of every statement, and texts of 0 to 96 letters. */
public final class FaultsTest {
    private static final Check check = new Check("FaultsTest");
    private static final String[] STATEMENTS = {"dd10010;", "b0630811;", "c000;", "h0;", "o000;", "x01;"};
    private static final String[] FORMS = {"Sk00000;", "S0000000;", "S000;", "S0;", "S000;", "S00;"};
    private static final String SIX = "dd10010;ds10010;dl10010;dk10010;dg10010;da10010;";

    public static void main(String[] args) {
        everyLetterEverywhere();
        everyBeginning();
        atLeastOneStatement();
        ninetySixLetters();
        lackingAtTheEndOfAll();
        kindOneGoesAheadOfKindTwo();
        placeOfTheFirstStatement();
        behindAllAheadOfIt();
        noRoomForMore();
        withOneNothing();
        lettersAreNoMore();
        check.end();
    }

    /** What may stand there: S a statement's letter, k a kind's, 0 a digit, ; itself. */
    private static boolean suits(char c, char form) {
        switch (form) {
            case 'S': return "dbchox".indexOf(c) >= 0;
            case 'k': return "dslkga".indexOf(c) >= 0;
            case '0': return "0123456789".indexOf(c) >= 0;
            default: return c == form;
        }
    }

    /** "The place of the first letter with which no KITCHEN can go on (the end, if something lacks)". */
    private static void everyLetterEverywhere() {
        for (String ahead : new String[] {"", "h1;", "dd10010;dd10010;"}) {
            for (int s = 0; s < STATEMENTS.length; s++) {
                for (int at = 0; at < STATEMENTS[s].length(); at++) {
                    for (char c = 0; c <= 255; c++) letterAt(ahead, s, at, c);
                }
            }
        }
    }

    private static void letterAt(String ahead, int s, int at, char c) {
        int place = ahead.length() + at;
        boolean suits = suits(c, FORMS[s].charAt(at));
        boolean whole = suits && at == STATEMENTS[s].length() - 1;
        if (whole) return;
        String text = ahead + STATEMENTS[s].substring(0, at) + c;
        check.due("'" + text + "'", Check.tell(new BoxOnARope(), text), suits ? -1000 - text.length() : -1000 - place);
        if (suits) return;
        String on = text + STATEMENTS[s].substring(at + 1) + "h1;";
        check.due("'" + on + "'", Check.tell(new BoxOnARope(), on), -1000 - place);
    }

    private static String fullText() {
        return SIX + "b1194020;" + "c011;c122;c233;c344;c499;" + "o400;" + "h0;h1;h2;";
    }

    /** Each beginning of a text of 96 letters: well where a statement ends, else its end is where something lacks. */
    private static void everyBeginning() {
        String full = fullText();
        check.due("the full text", full.length(), 96);
        int statements = 0;
        for (int n = 0; n <= 96; n++) {
            boolean ends = n > 0 && full.charAt(n - 1) == ';';
            if (ends) statements++;
            check.due("the first " + n + " letters", Check.tell(new BoxOnARope(), full.substring(0, n)), ends ? statements : -1000 - n);
        }
    }

    /** "At least one STATEMENT": no letters at all lack it. */
    private static void atLeastOneStatement() {
        BoxOnARope box = new BoxOnARope();
        check.due("no letters", box.kitchen(), -1000);
        check.due("no letters once more", box.kitchen(), -1000);
        check.due("one statement", Check.tell(box, "h2;"), 1);
        check.due("no letters behind a KITCHEN", box.kitchen(), -1000);
        check.due("HASTE stays", box.count(6), 2);
        check.due("an end alone", Check.tell(box, ";"), -1000);
        for (int n = 11; n <= 16; n++) check.due("a FAULT is not counted: count(" + n + ")", box.count(n), 0);
    }

    /** "One by one (96 at most)": the 96th comes, the 97th does not, and the 96 become a KITCHEN. */
    private static void ninetySixLetters() {
        BoxOnARope box = new BoxOnARope();
        String full = fullText();
        for (int n = 1; n <= 96; n++) check.due("letter " + n, box.letter(full.charAt(n - 1)), n);
        check.due("letter 97", box.letter('h'), -6);
        check.due("letters", box.count(9), 96);
        check.due("kitchen()", box.kitchen(), 16);
        check.due("letters then", box.count(9), 0);
        int[] due = {6, 6, 6, 11, 40, 20, 2, 400, 0, 0};
        for (int what = 0; what < 10; what++) check.due("count(" + what + ")", box.count(what), due[what]);
        int[] told = {11, 22, 33, 44, 99};
        for (int c = 0; c < 5; c++) check.due("begins(" + c + ", 0)", box.begins(c, 0), told[c]);
        check.due("a letter again", box.letter('h'), 1);
        check.due("96 letters, 24 changes", Check.tell(Check.told("dd10010;dd10010;"), "x01;".repeat(24)), 24);
        check.due("96 letters, 32 statements", Check.tell(new BoxOnARope(), "h2;".repeat(32)), 32);
    }

    /** 96 letters, of which the last statement lacks something: the end is 96. With a letter out of place: that place. */
    private static void lackingAtTheEndOfAll() {
        String ahead = "h1;".repeat(31);
        check.due("95 letters", Check.tell(new BoxOnARope(), ahead + "h1"), -1095);
        check.due("96 letters", Check.tell(new BoxOnARope(), ahead + "c12"), -1096);
        check.due("96 letters, the last out of place", Check.tell(new BoxOnARope(), ahead + "c1;"), -1095);
        check.due("96 letters, the last for the end", Check.tell(new BoxOnARope(), ahead + "h11"), -1095);
        check.due("96 letters, the last no statement", Check.tell(new BoxOnARope(), "h1;".repeat(30) + "o400;" + "q"), -1095);
        check.due("96 letters, the last one begins", Check.tell(new BoxOnARope(), "h1;".repeat(30) + "o400;" + "h"), -1096);
        check.due("96 letters, kind 2 in the last", Check.tell(new BoxOnARope(), ahead + "h3;"), -2093);
        check.due("96 letters of no statement", Check.tell(new BoxOnARope(), "q".repeat(96)), -1000);
        check.due("96 ends", Check.tell(new BoxOnARope(), ";".repeat(96)), -1000);
        check.due("96 of letter 0", Check.tell(new BoxOnARope(), String.valueOf((char) 0).repeat(96)), -1000);
        check.due("96 of letter 255", Check.tell(new BoxOnARope(), String.valueOf((char) 255).repeat(96)), -1000);
    }

    /** "Else kind 2": a letter out of place, or what lacks, at the very end goes ahead of a number out of range at the start. */
    private static void kindOneGoesAheadOfKindTwo() {
        for (String wrong : new String[] {"h3;", "dd00010;", "o401;", "x00;", "c500;", "b0030811;"}) {
            check.due(wrong + " alone", Check.tell(new BoxOnARope(), wrong), -2000);
            check.due(wrong + "q", Check.tell(new BoxOnARope(), wrong + "q"), -1000 - wrong.length());
            check.due(wrong + "h1", Check.tell(new BoxOnARope(), wrong + "h1"), -1000 - wrong.length() - 2);
            check.due(wrong + "h1;", Check.tell(new BoxOnARope(), wrong + "h1;"), -2000);
        }
    }

    /** "The place of the first letter of the first STATEMENT that .. is not as it must be", not of the number in it. */
    private static void placeOfTheFirstStatement() {
        String ahead = "";
        for (int n = 0; n < 29; n++) {
            check.due(ahead + "h3;", Check.tell(new BoxOnARope(), ahead + "h3;"), -2000 - 3 * n);
            check.due(ahead + "h3;o999;", Check.tell(new BoxOnARope(), ahead + "h3;o999;"), -2000 - 3 * n);
            ahead += "h2;";
        }
        String[] wrong = {"dd00010;", "dd10000;", "dd10070;", "dd10015;", "b0030811;", "b1230811;", "b0634111;", "b0630800;", "b0630821;"};
        for (String w : wrong) check.due("c000;" + w + "h9;", Check.tell(new BoxOnARope(), "c000;" + w + "h9;"), -2005);
    }

    /** "No such DISH ahead of it": of this text or of an earlier KITCHEN, but not of what comes behind it. */
    private static void behindAllAheadOfIt() {
        check.due("both behind it", Check.tell(new BoxOnARope(), "x01;dd10010;dd10010;"), -2000);
        check.due("one behind it", Check.tell(new BoxOnARope(), "dd10010;x01;dd10010;"), -2008);
        check.due("both ahead of it", Check.tell(new BoxOnARope(), "dd10010;dd10010;x01;"), 3);
        BoxOnARope box = Check.told("dd10010;");
        check.due("one told earlier, one ahead of it", Check.tell(box, "dd10010;x10;"), 2);
        check.due("both told earlier", Check.tell(box, "x10;"), 1);
        check.is("changed twice", Check.orderOf(box).equals("01"));
        check.due("what a FAULT took away is not there", Check.tell(box, "dd10010;h3;"), -2008);
        check.due("DISH 2", Check.tell(box, "x02;"), -2000);
        check.due("one twice", Check.tell(box, "x11;"), -2000);
        box.image();
        Check.tell(box, "dd10010;");
        box.on();
        check.due("what came behind the IMAGE is not there", Check.tell(box, "x02;"), -2000);
    }

    /** "No room for more": DISHES, 6 at most, however many KITCHENS they come in. */
    private static void noRoomForMore() {
        for (int earlier = 0; earlier <= 6; earlier++) {
            BoxOnARope box = new BoxOnARope();
            if (earlier > 0) Check.tell(box, SIX.substring(0, 8 * earlier));
            String more = "dd10010;".repeat(7 - earlier);
            check.due(earlier + " and as many that they are 7", Check.tell(box, more), -2000 - 8 * (6 - earlier));
            check.due("none of them came", box.count(0), earlier);
            if (earlier == 6) continue;
            check.due(earlier + " and as many that they are 6", Check.tell(box, more.substring(8)), 6 - earlier);
            check.due("all of them came", box.count(0), 6);
        }
        check.due("no room is told, though the seventh is out of range, too", Check.tell(Check.told(SIX), "h0;dd00079;"), -2003);
        check.due("all that is no DISH has room", Check.tell(Check.told(SIX), "x05;x12;x34;"), 3);
    }

    /** "Without FAULT all of it comes, with one nothing": whatever stands ahead of it, in any state. */
    private static void withOneNothing() {
        String[] faults = {"h3;", "q", "h", "x66;", "o401;", "dd10090;"};
        for (String fault : faults) {
            for (String good : new String[] {"", "h2;o123;", "b0110101;c077;", "h1;h0;"}) nothingComes(good + fault);
        }
        nothingComes("dd99964;dd99964;x01;h3;");
        nothingComes("dd99964;dd99964;x01;h");
        nothingComes("");
    }

    private static void nothingComes(String text) {
        BoxOnARope told = Check.told("dd12344;ds10010;");
        BoxOnARope untold = Check.told("dd12344;ds10010;");
        told.image();
        untold.image();
        told.row(0);
        untold.row(0);
        check.is("'" + text + "' has a FAULT", Check.tell(told, text) <= -1000);
        for (int n = 11; n <= 16; n++) check.due("'" + text + "', then count(" + n + ")", told.count(n), 0);
        check.is("'" + text + "' leaves something", Twins.allOf(told).equals(Twins.allOf(untold)));
    }

    /** "The letters become a KITCHEN, and are no more (with a FAULT neither)". */
    private static void lettersAreNoMore() {
        BoxOnARope box = new BoxOnARope();
        for (String text : new String[] {"h1;", "h3;", "h", "q", ""}) {
            Check.tell(box, text);
            check.due("letters behind '" + text + "'", box.count(9), 0);
            check.due("a letter behind '" + text + "'", box.letter('h'), 1);
            check.due("and the FAULT is its own", box.kitchen(), -1001);
        }
    }
}
