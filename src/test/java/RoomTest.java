import java.lang.management.ManagementFactory;

/** All calls of a run live in one room: an object brings its rows with it, and its calls make nothing more. */
public final class RoomTest {
    private static final Check check = new Check("RoomTest");
    private static final String SIX = "dd10010;ds20021;dl30032;dk40043;dg50054;da60060;";
    private static final long MOST_FOR_AN_OBJECT = 8000;
    private static final long MOST_FOR_ALL_CALLS = 2000;

    public static void main(String[] args) {
        com.sun.management.ThreadMXBean room = (com.sun.management.ThreadMXBean) ManagementFactory.getThreadMXBean();
        for (int n = 0; n < 30; n++) allCalls(new BoxOnARope());
        long before = room.getCurrentThreadAllocatedBytes();
        BoxOnARope box = new BoxOnARope();
        long made = room.getCurrentThreadAllocatedBytes();
        allCalls(box);
        long called = room.getCurrentThreadAllocatedBytes();
        check.is("an object takes " + (made - before) + " bytes", made - before < MOST_FOR_AN_OBJECT);
        check.is("its calls take " + (called - made) + " bytes", called - made < MOST_FOR_ALL_CALLS);
        check.end();
    }

    private static void allCalls(BoxOnARope box) {
        Check.tell(box, SIX);
        Check.tell(box, "x01;h1;o010;c012;b0731010;q");
        Check.tell(box, "x01;h1;o010;c012;b0731010;");
        for (int i = -1; i < 8; i++) {
            box.dish(i, i);
            box.place(i);
            box.change(i, 2);
            box.heat(i, 50);
            box.begins(i, 20);
            box.set(i, 3);
            box.goes(i);
            box.total(i);
            box.of(i, i);
            box.best(i);
            box.bestAt(i, i);
            box.bestSet(i);
            box.stairs(i);
            box.forgotten(i);
            box.halved(i);
            box.heard(i);
            box.waits(i);
            box.send(i);
            box.row(0);
            box.fits(i);
            box.lots(i, i);
            box.count(i);
        }
        box.roomMore();
        box.twoPull();
        box.judge();
        box.image();
        box.on();
    }
}
