/** The three states in which calls are looked at: nothing at all, something of all, and as much as there can be. */
enum States {
    NOTHING(0, 0, 1, 2, 3, 4), SOME(3, 2, 3, 4), FULL(6, 3);

    final int dishes;
    final int[] coursesOfNobody;

    States(int dishes, int... coursesOfNobody) {
        this.dishes = dishes;
        this.coursesOfNobody = coursesOfNobody;
    }

    void bring(BoxOnARope box) {
        if (this == SOME) bringSome(box);
        if (this == FULL) bringFull(box);
    }

    /** A row that is so, letters that lack their end, and an image that is not as it is now. */
    private static void bringSome(BoxOnARope box) {
        Check.tell(box, "dd14020;ds55040;b0620810;o030;");
        box.image();
        Check.tell(box, "da99911;c344;h1;x02;");
        for (int go : new int[] {0, 1}) box.row(go);
        Check.say(box, "h2");
    }

    /** Six dishes, 96 letters that become a kitchen, 12 in the row, all at its greatest, and an image of six dishes. */
    private static void bringFull(BoxOnARope box) {
        Check.tell(box, "dd11110;ds22211;dl33321;dk44422;dg55524;da66664;");
        box.image();
        for (int what = 0; what < 6; what++) box.set(what, BoundsOf.GREATEST_SET[what]);
        for (int c = 0; c < 5; c++) box.begins(c, 99);
        for (int d = 0; d < 6; d++) box.heat(d, 99);
        for (int go : new int[] {0, 0, 0, 0, 0, 1, 2, 2, 2, 2, 2, 2}) box.row(go);
        Check.say(box, FULL_TEXT);
    }

    static final String FULL_TEXT = "b0140001;c499;o000;x05;c000;c199;" + "h1;".repeat(21);
}
