import java.util.ArrayList;
import java.util.List;

/** Two objects brought to the same state: what a call changes in the one is heard by asking both for all there is. */
final class Twins {
    /** The calls that bring a new object to a state. */
    interface Bring {
        void to(BoxOnARope box);
    }

    /** The call that is looked at. */
    interface Call {
        int on(BoxOnARope box);
    }

    private final Check check;
    private final Bring state;

    Twins(Check check, Bring state) {
        this.check = check;
        this.state = state;
    }

    /** The call answers the refusal, it alone is counted (once), and nothing else changes. */
    void refused(String what, Call call, int answer) {
        int number = answer < 0 ? -answer : answer - 1000000000;
        afterCall(what, call, answer, number);
    }

    /** The call answers, no refusal is counted, and nothing changes. */
    void asked(String what, Call call, int answer) {
        afterCall(what, call, answer, 0);
    }

    /** Whatever the call answers: asked again it answers the same, no refusal is counted, and nothing changes. */
    void onlyAsks(String what, Call call) {
        BoxOnARope box = brought();
        int first = call.on(box);
        check.due(what + " asked again", call.on(box), first);
        asked(what, call, first);
    }

    private void afterCall(String what, Call call, int answer, int counted) {
        BoxOnARope called = brought();
        BoxOnARope uncalled = brought();
        check.due(what, call.on(called), answer);
        for (int number = 1; number <= 6; number++) {
            int more = number == counted ? 1 : 0;
            check.due(what + ", then count(" + (10 + number) + ")", called.count(10 + number), uncalled.count(10 + number) + more);
        }
        check.is("it is not as before after " + what, allOf(called).equals(allOf(uncalled)));
    }

    BoxOnARope brought() {
        BoxOnARope box = new BoxOnARope();
        state.to(box);
        return box;
    }

    /** All that can be heard of an object but the refusals: the row, what there is, the letters, the image. Uses it up. */
    static List<Integer> allOf(BoxOnARope box) {
        List<Integer> heard = new ArrayList<>();
        for (int what = 0; what <= 10; what++) heard.add(box.count(what));
        heard.add(box.fits(-1));
        heard.add(box.judge());
        hear(box, heard);
        box.letter(';');
        heard.add(box.kitchen());
        hear(box, heard);
        heard.add(box.on());
        hear(box, heard);
        return heard;
    }

    private static void hear(BoxOnARope box, List<Integer> heard) {
        for (int d = 0; d < box.count(0); d++) {
            heard.add(box.place(d));
            for (int what = 0; what < 6; what++) heard.add(box.dish(d, what));
        }
        for (int what = 0; what < 8; what++) heard.add(box.total(what));
        // What is told for a course, and the box's own weight, are heard only by telling another.
        for (int c = 0; c < 5; c++) heard.add(box.begins(c, 0));
        for (int what = 0; what < 6; what++) heard.add(box.set(what, 1));
    }
}
