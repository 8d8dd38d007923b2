import java.util.ArrayList;
import java.util.Arrays;
import java.util.List;
import java.util.regex.Matcher;
import java.util.regex.Pattern;

/** The document once more, as plainly as lists and patterns can say it: the class's answers are held against these. */
final class PlainModel {
    private static final Pattern KITCHEN =
        Pattern.compile("(?:d[dslkga]\\d{5};|b\\d{7};|c\\d{3};|h\\d;|o\\d{3};|x\\d\\d;)+", Pattern.DOTALL);
    private static final int[] LEAST = {1, 0, 0, 1, 0, 0};
    private static final int[] GREATEST = {11, 9, 40, 20, 2, 400};

    /** A dish as it came, and what became of it. */
    private static final class Dish {
        int kind, weight, heat, plates, course;
        int up, served, warm, late, go, stood, slops;

        Dish copy() {
            Dish d = new Dish();
            d.kind = kind;
            d.weight = weight;
            d.heat = heat;
            d.plates = plates;
            d.course = course;
            return d;
        }
    }

    /** All that an image keeps. */
    private static final class State {
        final List<Dish> dishes = new ArrayList<>();
        List<Integer> order = new ArrayList<>();
        int[] box = {6, 3, 8, 11, 0, 0};
        int[] told = new int[5];

        State copy() {
            State s = new State();
            for (Dish d : dishes) s.dishes.add(d.copy());
            s.order = new ArrayList<>(order);
            s.box = box.clone();
            s.told = told.clone();
            return s;
        }

        int begin(int course) {
            return course * 100 + told[course];
        }

        int seconds(int load) {
            int times = 1 + Math.abs(load - box[2]) / 4 - box[4];
            return box[3] * (times < 1 ? 1 : times);
        }

        /** Lets the evening go by; answers the eight totals. */
        int[] pass(List<Integer> by, int byStairs) {
            List<List<Integer>> gos = new ArrayList<>();
            for (int d : by) {
                if (d == byStairs) continue;
                List<Integer> last = gos.isEmpty() ? null : gos.get(gos.size() - 1);
                boolean joins = last != null && dishes.get(d).kind != 5 && dishes.get(last.get(0)).kind != 5
                    && last.stream().mapToInt(e -> dishes.get(e).plates).sum() + dishes.get(d).plates <= box[0];
                if (joins) last.add(d);
                else gos.add(new ArrayList<>(List.of(d)));
            }
            int clock = box[5];
            for (int g = 0; g < gos.size(); g++) {
                int load = box[1] + gos.get(g).stream().mapToInt(e -> dishes.get(e).weight).sum();
                int up = clock + seconds(load);
                for (int d : gos.get(g)) {
                    dishes.get(d).up = up;
                    dishes.get(d).go = g;
                }
                clock = up + seconds(box[1]);
            }
            if (byStairs >= 0) dishes.get(byStairs).up = box[5] + 60;
            int[] totals = new int[8];
            totals[5] = clock;
            totals[6] = gos.size();
            for (int d = 0; d < dishes.size(); d++) {
                Dish x = dishes.get(d);
                x.served = Math.max(x.up, begin(x.course));
                x.stood = x.served - x.up;
                x.late = Math.max(x.up - begin(x.course), 0);
                x.warm = Math.max(x.heat - cools(x.kind, x.served), 0);
                x.slops = slops(x.kind, box[4]) + (d == byStairs ? 2 : 0);
                totals[0] += x.late;
                totals[1] = Math.max(totals[1], x.late);
                totals[2] += x.warm;
                totals[3] += x.slops;
                totals[4] += x.stood;
            }
            totals[7] = totals[2] - totals[0] - 5 * totals[3];
            return totals;
        }

        static int cools(int kind, int n) {
            switch (kind) {
                case 2: case 4: return n / 10 / 2;
                case 3: return 0;
                case 5: return n / 10 + 1;
                default: return n / 10;
            }
        }

        static int slops(int kind, int haste) {
            return kind == 1 ? 4 * haste : kind == 4 ? 4 * haste + 1 : 0;
        }

        int worth() {
            return pass(order, -1)[7];
        }

        State with(int what, int v) {
            State s = copy();
            s.box[what] = v;
            return s;
        }
    }

    private State now = new State();
    private State image;
    private String letters = "";
    private final List<Integer> row = new ArrayList<>();
    private final int[] refusals = new int[7];

    /** One call by its number in the document's face (letter 0, kitchen 1, .. count 28). */
    int call(int which, int a, int b) {
        switch (which) {
            case 0: return letter(a);
            case 1: return kitchen();
            case 2: return dish(a, b);
            case 3: return a < 0 || a >= now.order.size() ? no(-1) : now.order.get(a);
            case 4: return change(a, b);
            case 5: return heat(a, b);
            case 6: return begins(a, b);
            case 7: return set(a, b);
            case 8: return a < 0 ? no(-4) : a > 99 ? no(-6) : now.seconds(a);
            case 9: return a < 0 || a > 7 ? noLarge(-2) : now.pass(now.order, -1)[a];
            case 10: return of(a, b);
            case 11: return a < 0 || a > 7 ? noLarge(-2) : now.pass(bestOrder(a), -1)[a];
            case 12: return a < 0 || a > 7 ? no(-2) : isNoDish(b) ? no(-1) : bestOrder(a).get(b);
            case 13: return bestSet(a);
            case 14: return now.box[0] == 11 ? noLarge(-3) : now.with(0, now.box[0] + 1).worth() - now.worth();
            case 15: return now.with(3, now.box[3] - now.box[3] / 2).worth() - now.worth();
            case 16: return stairs(a);
            case 17: return forgotten(a);
            case 18: return halved(a);
            case 19: return heard(a);
            case 20: return waits(a);
            case 21: return send(a);
            case 22: return row(a);
            case 23: return fits(a);
            case 24: return judge();
            case 25: return lots(a, b);
            case 26: image = now.copy(); return now.dishes.size();
            case 27: return on();
            default: return count(a);
        }
    }

    private int no(int number) {
        refusals[-number]++;
        return number;
    }

    private int noLarge(int number) {
        return 1000000000 - no(number);
    }

    private boolean isNoDish(int d) {
        return d < 0 || d >= now.dishes.size();
    }

    private int letter(int c) {
        if (c < 0) return no(-4);
        if (c > 255 || letters.length() == 96) return no(-6);
        letters += (char) c;
        return letters.length();
    }

    private int kitchen() {
        String text = letters;
        letters = "";
        for (int i = 0; i <= text.length(); i++) {
            // What has come up to here must be the beginning of some KITCHEN, and the whole must be one.
            Matcher m = KITCHEN.matcher(text.substring(0, i));
            boolean whole = m.matches();
            if (!whole && !m.hitEnd()) return -1000 - (i - 1);
            if (!whole && i == text.length()) return -1000 - i;
        }
        State then = now.copy();
        int at = 0;
        int statements = 0;
        for (String statement : text.split("(?<=;)")) {
            if (!comes(then, statement)) return -2000 - at;
            at += statement.length();
            statements++;
        }
        now = then;
        return statements;
    }

    private static int digits(String s, int from, int to) {
        return Integer.parseInt(s.substring(from, to));
    }

    private static boolean put(State s, int what, int v) {
        s.box[what] = v;
        return v >= LEAST[what] && v <= GREATEST[what];
    }

    private static boolean comes(State s, String t) {
        switch (t.charAt(0)) {
            case 'd':
                Dish d = new Dish();
                d.kind = "dslkga".indexOf(t.charAt(1));
                d.weight = digits(t, 2, 3);
                d.heat = digits(t, 3, 5);
                d.plates = digits(t, 5, 6);
                d.course = digits(t, 6, 7);
                s.order.add(s.dishes.size());
                s.dishes.add(d);
                return d.weight >= 1 && d.plates >= 1 && d.plates <= 6 && d.course <= 4 && s.dishes.size() <= 6;
            case 'b':
                return put(s, 0, digits(t, 1, 3)) & put(s, 1, digits(t, 3, 4)) & put(s, 2, digits(t, 4, 6)) & put(s, 3, digits(t, 6, 8));
            case 'c':
                if (digits(t, 1, 2) > 4) return false;
                s.told[digits(t, 1, 2)] = digits(t, 2, 4);
                return true;
            case 'h': return put(s, 4, digits(t, 1, 2));
            case 'o': return put(s, 5, digits(t, 1, 4));
            default:
                int one = s.order.indexOf(digits(t, 1, 2));
                int other = s.order.indexOf(digits(t, 2, 3));
                if (one < 0 || other < 0 || one == other) return false;
                java.util.Collections.swap(s.order, one, other);
                return true;
        }
    }

    private int dish(int d, int what) {
        if (isNoDish(d)) return no(-1);
        if (what < 0 || what > 5) return no(-2);
        Dish x = now.dishes.get(d);
        return new int[] {x.kind, x.weight, x.heat, x.plates, x.course, now.order.indexOf(d)}[what];
    }

    private int change(int one, int other) {
        if (isNoDish(one) || isNoDish(other) || one == other) return no(-1);
        int was = now.order.indexOf(other);
        java.util.Collections.swap(now.order, now.order.indexOf(one), was);
        return was;
    }

    private int heat(int d, int v) {
        if (isNoDish(d)) return no(-1);
        if (v < 0) return no(-4);
        if (v > 99) return no(-6);
        int was = now.dishes.get(d).heat;
        now.dishes.get(d).heat = v;
        return was;
    }

    private int begins(int c, int v) {
        if (c < 0 || c > 4) return no(-1);
        if (v < 0) return no(-4);
        if (v > 99) return no(-6);
        int was = now.told[c];
        now.told[c] = v;
        return was;
    }

    private int set(int what, int v) {
        if (what < 0 || what > 5) return no(-2);
        if (v < LEAST[what]) return no(-4);
        if (v > GREATEST[what]) return no(-6);
        int was = now.box[what];
        now.box[what] = v;
        return was;
    }

    private int of(int d, int what) {
        if (isNoDish(d)) return no(-1);
        if (what < 0 || what > 6) return no(-2);
        now.pass(now.order, -1);
        Dish x = now.dishes.get(d);
        return new int[] {x.up, x.served, x.warm, x.late, x.go, x.stood, x.slops}[what];
    }

    private List<List<Integer>> allOrders() {
        List<List<Integer>> all = new ArrayList<>();
        extend(new ArrayList<>(), all);
        return all;
    }

    private void extend(List<Integer> begun, List<List<Integer>> all) {
        if (begun.size() == now.dishes.size()) all.add(new ArrayList<>(begun));
        for (int d = 0; d < now.dishes.size(); d++) {
            if (begun.contains(d)) continue;
            begun.add(d);
            extend(begun, all);
            begun.remove(begun.size() - 1);
        }
    }

    private List<Integer> bestOrder(int what) {
        int sign = what == 2 || what == 7 ? -1 : 1;
        List<Integer> best = null;
        int least = 0;
        for (List<Integer> order : allOrders()) {
            int v = sign * now.pass(order, -1)[what];
            if (best == null || v < least) {
                best = order;
                least = v;
            }
        }
        return best;
    }

    private int bestSet(int what) {
        if (!Arrays.asList(0, 2, 4, 5).contains(what)) return no(-2);
        int best = -1;
        for (int v = GREATEST[what]; v >= LEAST[what]; v--) {
            if (what == 5 && v % 10 != 0) continue;
            if (best < 0 || now.with(what, v).worth() >= now.with(what, best).worth()) best = v;
        }
        return best;
    }

    private int stairs(int what) {
        if (what != 0 && what != 1) return noLarge(-2);
        int without = now.worth();
        int who = -9;
        int more = 0;
        for (int d = now.dishes.size() - 1; d >= 0; d--) {
            int gain = now.pass(now.order, d)[7] - without;
            if (gain > 0 && gain >= more) {
                who = d;
                more = gain;
            }
        }
        return what == 0 ? who : more;
    }

    private int forgotten(int d) {
        if (isNoDish(d)) return noLarge(-1);
        List<Integer> then = new ArrayList<>(now.order);
        then.remove((Integer) d);
        then.add(d);
        return now.worth() - now.pass(then, -1)[7];
    }

    private int halved(int course) {
        if (course < -1) return no(-4);
        if (course > 4) return no(-1);
        now.pass(now.order, -1);
        int n = 0;
        for (int c = 0; c < 5; c++) {
            int k = c;
            long gos = now.dishes.stream().filter(d -> d.course == k).mapToInt(d -> d.go).distinct().count();
            if (gos > 1 && (course == -1 || course == c)) n++;
        }
        return n;
    }

    private int heard(int n) {
        if (n < 0) return no(-4);
        if (n > 999) return no(-6);
        int latest = -9;
        for (int c = 0; c < 5; c++) {
            if (now.begin(c) <= n) latest = c;
        }
        return latest;
    }

    private int waits(int n) {
        if (n < 0) return no(-4);
        if (n > 999) return no(-6);
        now.pass(now.order, -1);
        int bits = 0;
        for (int d = 0; d < now.dishes.size(); d++) {
            if (now.begin(now.dishes.get(d).course) <= n && now.dishes.get(d).up > n) bits += 1 << d;
        }
        return bits;
    }

    private int send(int course) {
        if (course < 0 || course > 4) return no(-1);
        if (now.dishes.stream().noneMatch(d -> d.course == course)) return no(-3);
        int best = -9;
        int least = 0;
        for (int out = 0; out <= 400; out++) {
            State s = now.with(5, out);
            s.pass(s.order, -1);
            if (s.dishes.stream().anyMatch(d -> d.course == course && d.up > s.begin(course))) continue;
            int stood = s.dishes.stream().filter(d -> d.course == course).mapToInt(d -> d.stood).sum();
            if (best == -9 || stood < least) {
                best = out;
                least = stood;
            }
        }
        return best;
    }

    private int row(int v) {
        if (v < 0) return no(-4);
        if (v > 99 || row.size() == 12) return no(-6);
        row.add(v);
        return row.size();
    }

    private int wrongInRow(List<Integer> order) {
        now.pass(order, -1);
        for (int i = 0; i < row.size(); i++) {
            if (i >= order.size()) return i;
            if (now.dishes.get(order.get(i)).go != row.get(i)) return i;
        }
        return -9;
    }

    private int fits(int i) {
        if (i < -1) return no(-4);
        if (i >= now.dishes.size()) return no(-1);
        List<List<Integer>> fitting = new ArrayList<>();
        for (List<Integer> order : allOrders()) {
            if (wrongInRow(order) == -9) fitting.add(order);
        }
        if (i == -1) return fitting.size();
        return fitting.isEmpty() ? -9 : fitting.get(0).get(i);
    }

    private int judge() {
        int answer = wrongInRow(now.order);
        row.clear();
        return answer;
    }

    private int lots(int n, int z) {
        if (n < 1) return no(-4);
        if (n > 20) return no(-6);
        int late = 0;
        long seed = z;
        for (int evening = 0; evening < n; evening++) {
            State s = now.copy();
            for (int c = 0; c < 5; c++) {
                seed = Math.floorMod(seed * 1664525 + 1013904223, 1L << 32);
                s.told[c] = (int) (seed % (1L << 31) / 256 % 100);
            }
            late += s.pass(s.order, -1)[0];
        }
        return late;
    }

    private int on() {
        if (image == null) return no(-3);
        now = image.copy();
        return now.dishes.size();
    }

    private int count(int what) {
        if (what >= 11 && what <= 16) return refusals[what - 10];
        if (what < 0 || what > 9) return -9;
        int weights = now.dishes.stream().mapToInt(d -> d.weight).sum();
        int plates = now.dishes.stream().mapToInt(d -> d.plates).sum();
        return new int[] {now.dishes.size(), weights, plates, now.box[0], now.box[2], now.box[3], now.box[4], now.box[5], row.size(), letters.length()}[what];
    }
}
