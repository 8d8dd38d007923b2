import java.util.Random;

/** Long runs of calls by lot (the same at each time): every answer must be the plain model's. */
public final class AgainstPlainModelTest {
    private static final Check check = new Check("AgainstPlainModelTest");
    private static final String[] NAMES = {"letter", "kitchen", "dish", "place", "change", "heat", "begins", "set", "goes", "total", "of",
        "best", "bestAt", "bestSet", "roomMore", "twoPull", "stairs", "forgotten", "halved", "heard", "waits", "send", "row", "fits",
        "judge", "lots", "image", "on", "count"};
    private static final int[] GREATEST = {255, 0, 5, 5, 5, 5, 4, 5, 99, 7, 5, 7, 7, 5, 0, 0, 1, 5, 4, 999, 999, 4, 99, 5, 0, 20, 0, 0, 17};
    private static final int[] SECOND = {0, 0, 5, 0, 5, 99, 99, 400, 0, 0, 6, 0, 5, 0, 0, 0, 0, 0, 0, 0, 0, 0, 0, 0, 0, 99, 0, 0, 0};
    private static final int[] SET_GREATEST = {11, 9, 40, 20, 2, 400};

    private final Random lot;
    private final BoxOnARope box = new BoxOnARope();
    private final PlainModel model = new PlainModel();
    private final StringBuilder run = new StringBuilder();
    private int calls;
    private boolean wrong;

    private AgainstPlainModelTest(int seed) {
        lot = new Random(seed);
    }

    public static void main(String[] args) {
        int bad = 0;
        for (int seed = 0; seed < 300 && bad < 3; seed++) {
            AgainstPlainModelTest test = new AgainstPlainModelTest(seed);
            test.go(seed % 3 == 0 ? 30 : 4);
            if (test.wrong) {
                bad++;
                System.out.println("seed " + seed + ":" + test.run);
            }
        }
        check.end();
    }

    private void go(int foulTextInHundred) {
        tellSome(foulTextInHundred);
        while (calls < 512 && !wrong) {
            int which = lot.nextInt(NAMES.length);
            if (which == 0 || which == 1) {
                if (lot.nextInt(4) == 0) tellSome(foulTextInHundred);
            } else if (which == 22) {
                int last = 0;
                for (int n = lot.nextInt(5); n > 0; n--) {
                    if (lot.nextInt(2) == 0) last++;
                    say(22, last, 0);
                }
            } else {
                say(which, argument(GREATEST[which]), second(which));
            }
        }
    }

    /** Mostly in range; now and then at or just beyond its ends, or far out. */
    private int argument(int greatest) {
        int r = lot.nextInt(40);
        if (r == 0) return -1;
        if (r == 1) return greatest + 1;
        if (r == 2) return lot.nextInt();
        if (r == 3) return greatest;
        if (r == 4) return -2;
        return lot.nextInt(greatest + 1);
    }

    private int second(int which) {
        if (which == 7 && lot.nextInt(5) > 0) return argument(SET_GREATEST[lot.nextInt(6)]);
        if (which == 25 && lot.nextInt(2) > 0) return lot.nextInt();
        return argument(SECOND[which]);
    }

    private void tellSome(int foulInHundred) {
        StringBuilder text = new StringBuilder();
        for (int n = 1 + lot.nextInt(7); n > 0; n--) text.append(statement());
        if (lot.nextInt(100) < foulInHundred) foul(text);
        for (int i = 0; i < text.length(); i++) say(0, text.charAt(i), 0);
        say(1, 0, 0);
    }

    private String statement() {
        switch (lot.nextInt(12)) {
            case 0: return String.format("b%02d%d%02d%02d;", 1 + lot.nextInt(11), lot.nextInt(10), lot.nextInt(41), 1 + lot.nextInt(20));
            case 1: return String.format("c%d%02d;", lot.nextInt(5), lot.nextInt(100));
            case 2: return "h" + lot.nextInt(3) + ";";
            case 3: return String.format("o%03d;", lot.nextInt(401));
            case 4: return "x" + lot.nextInt(3) + (3 + lot.nextInt(3)) + ";";
            default:
                return "d" + "dslkga".charAt(lot.nextInt(6)) + (1 + lot.nextInt(9)) + String.format("%02d", lot.nextInt(100))
                    + (1 + lot.nextInt(lot.nextInt(6) + 1)) + lot.nextInt(5) + ";";
        }
    }

    private void foul(StringBuilder text) {
        int at = lot.nextInt(text.length());
        String letters = "0123456789dslkgabchox;q" + (char) 0 + (char) 255;
        char c = letters.charAt(lot.nextInt(letters.length()));
        switch (lot.nextInt(3)) {
            case 0: text.setCharAt(at, c); break;
            case 1: text.deleteCharAt(at); break;
            default: text.insert(at, c);
        }
    }

    private void say(int which, int a, int b) {
        if (calls >= 512 || wrong) return;
        calls++;
        int got = call(which, a, b);
        int want = model.call(which, a, b);
        String said = NAMES[which] + "(" + a + ", " + b + ")";
        run.append(' ').append(said);
        check.due(said, got, want);
        wrong = got != want;
    }

    private int call(int which, int a, int b) {
        switch (which) {
            case 0: return box.letter(a);
            case 1: return box.kitchen();
            case 2: return box.dish(a, b);
            case 3: return box.place(a);
            case 4: return box.change(a, b);
            case 5: return box.heat(a, b);
            case 6: return box.begins(a, b);
            case 7: return box.set(a, b);
            case 8: return box.goes(a);
            case 9: return box.total(a);
            case 10: return box.of(a, b);
            case 11: return box.best(a);
            case 12: return box.bestAt(a, b);
            case 13: return box.bestSet(a);
            case 14: return box.roomMore();
            case 15: return box.twoPull();
            case 16: return box.stairs(a);
            case 17: return box.forgotten(a);
            case 18: return box.halved(a);
            case 19: return box.heard(a);
            case 20: return box.waits(a);
            case 21: return box.send(a);
            case 22: return box.row(a);
            case 23: return box.fits(a);
            case 24: return box.judge();
            case 25: return box.lots(a, b);
            case 26: return box.image();
            case 27: return box.on();
            default: return box.count(a);
        }
    }
}
