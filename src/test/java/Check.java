/** Counts the answers that are not as due, and ends a test as the shared tests end. */
final class Check {
    private final String name;
    private int looked;
    private int wrong;

    Check(String name) {
        this.name = name;
    }

    void due(String call, long got, long want) {
        looked++;
        if (got == want) return;
        wrong++;
        System.out.println(name + ": " + call + " answered " + got + ", due is " + want);
    }

    void is(String what, boolean holds) {
        looked++;
        if (holds) return;
        wrong++;
        System.out.println(name + ": " + what);
    }

    void end() {
        System.out.println(name + ": " + looked + " looked at, " + wrong + " wrong");
        if (wrong != 0) System.exit(1);
    }

    /** A new object into which the text has come, one letter after the other, and has become a kitchen. */
    static BoxOnARope told(String text) {
        BoxOnARope box = new BoxOnARope();
        tell(box, text);
        return box;
    }

    static int tell(BoxOnARope box, String text) {
        say(box, text);
        return box.kitchen();
    }

    static void say(BoxOnARope box, String text) {
        for (int i = 0; i < text.length(); i++) box.letter(text.charAt(i));
    }

    /** The order, as one number a digit a place. */
    static String orderOf(BoxOnARope box) {
        StringBuilder order = new StringBuilder();
        for (int i = 0; i < box.count(0); i++) order.append(box.place(i));
        return order.toString();
    }

    static String bestOrder(BoxOnARope box, int what) {
        StringBuilder order = new StringBuilder();
        for (int i = 0; i < box.count(0); i++) order.append(box.bestAt(what, i));
        return order.toString();
    }
}
