/** A kitchen below, a table above, and between them a box on a rope: DOC.md tells what each call does. */
public final class BoxOnARope {
    private static final int MOST_DISHES = 6;
    private static final int COURSES = 5;
    private static final int MOST_ORDERS = 720;
    private static final int GREATEST_TOLD = 99;
    private static final int GREATEST_SECOND = 999;
    private static final int GREATEST_LOAD = 99;
    private static final int MOST_LETTERS = 96;
    private static final int GREATEST_LETTER = 255;
    private static final int MOST_IN_ROW = 12;
    private static final int GREATEST_IN_ROW = 99;
    private static final int MOST_EVENINGS = 20;
    private static final String KIND_LETTERS = "dslkga";

    private static final int NO_DISH = -1;
    private static final int NONE = -9;
    private static final int NOBODY = -1;
    private static final int OTHER = -2;
    private static final int STATE = -3;
    private static final int BELOW = -4;
    private static final int NO_ROOM = -6;
    private static final int KINDS_OF_REFUSAL = 6;
    private static final int ABOVE_ALL_ANSWERS = 1000000000;
    private static final int NO_SUCH_LETTER = -1000;
    private static final int NOT_AS_IT_MUST_BE = -2000;

    private static final int ROOM = 0;
    private static final int SELF = 1;
    private static final int BALANCE = 2;
    private static final int PULLS = 3;
    private static final int HASTE = 4;
    private static final int SET_OUT = 5;
    private static final int[] LEAST = {1, 0, 0, 1, 0, 0};
    private static final int[] GREATEST = {11, 9, 40, 20, 2, 400};

    private static final int LATE = 0;
    private static final int MOST_LATE = 1;
    private static final int WARM = 2;
    private static final int SLOPPED = 3;
    private static final int STOOD = 4;
    private static final int LAST_DOWN = 5;
    private static final int GO_COUNT = 6;
    private static final int WORTH = 7;
    private static final int TOTALS = 8;

    private final Kitchen now;
    private final Kitchen trial;
    private final Kitchen kept;
    private boolean hasKept;
    private final Telling telling;
    private final Evening evening;
    private final Orders orders;
    private final int[] found;
    private final int[] told;
    private int toldCount;
    private final int[] refusals;

    public BoxOnARope() {
        now = new Kitchen();
        trial = new Kitchen();
        kept = new Kitchen();
        telling = new Telling();
        evening = new Evening();
        orders = new Orders();
        found = new int[MOST_DISHES];
        told = new int[MOST_IN_ROW];
        refusals = new int[KINDS_OF_REFUSAL];
    }

    public int letter(int c) {
        if (c < 0) return refuse(BELOW);
        if (c > GREATEST_LETTER || telling.length >= MOST_LETTERS) return refuse(NO_ROOM);
        return telling.add(c);
    }

    public int kitchen() {
        int answer = becomeKitchen();
        telling.length = 0;
        return answer;
    }

    public int dish(int dish, int what) {
        if (!now.hasDish(dish)) return refuse(NOBODY);
        switch (what) {
            case 0: return now.kind[dish];
            case 1: return now.weight[dish];
            case 2: return now.heat[dish];
            case 3: return now.plates[dish];
            case 4: return now.course[dish];
            case 5: return now.whereIs(dish);
            default: return refuse(OTHER);
        }
    }

    public int place(int i) {
        if (!now.hasDish(i)) return refuse(NOBODY);
        return now.order[i];
    }

    public int change(int one, int other) {
        if (!now.swap(one, other)) return refuse(NOBODY);
        return now.whereIs(one);
    }

    public int heat(int dish, int v) {
        if (!now.hasDish(dish)) return refuse(NOBODY);
        if (v < 0) return refuse(BELOW);
        if (v > GREATEST_TOLD) return refuse(NO_ROOM);
        int was = now.heat[dish];
        now.heat[dish] = v;
        return was;
    }

    public int begins(int course, int v) {
        if (!isCourse(course)) return refuse(NOBODY);
        if (v < 0) return refuse(BELOW);
        if (v > GREATEST_TOLD) return refuse(NO_ROOM);
        int was = now.told[course];
        now.told[course] = v;
        return was;
    }

    public int set(int what, int v) {
        if (what < ROOM || what > SET_OUT) return refuse(OTHER);
        if (v < LEAST[what]) return refuse(BELOW);
        if (v > GREATEST[what]) return refuse(NO_ROOM);
        int was = now.box[what];
        now.box[what] = v;
        return was;
    }

    public int goes(int load) {
        if (load < 0) return refuse(BELOW);
        if (load > GREATEST_LOAD) return refuse(NO_ROOM);
        return now.secondsWith(load);
    }

    public int total(int what) {
        if (!isTotal(what)) return refuseAbove(OTHER);
        lookAtNow();
        return evening.totals[what];
    }

    public int of(int dish, int what) {
        if (!now.hasDish(dish)) return refuse(NOBODY);
        lookAtNow();
        switch (what) {
            case 0: return evening.up[dish];
            case 1: return evening.served[dish];
            case 2: return evening.warm[dish];
            case 3: return evening.late[dish];
            case 4: return evening.go[dish];
            case 5: return evening.stood[dish];
            case 6: return evening.slops[dish];
            default: return refuse(OTHER);
        }
    }

    public int best(int what) {
        if (!isTotal(what)) return refuseAbove(OTHER);
        return findBest(what);
    }

    public int bestAt(int what, int i) {
        if (!isTotal(what)) return refuse(OTHER);
        if (!now.hasDish(i)) return refuse(NOBODY);
        findBest(what);
        return found[i];
    }

    public int bestSet(int what) {
        if (what != ROOM && what != BALANCE && what != HASTE && what != SET_OUT) return refuse(OTHER);
        int step = what == SET_OUT ? 10 : 1;
        int bestValue = LEAST[what];
        int most = worthWith(what, bestValue);
        for (int v = bestValue + step; v <= GREATEST[what]; v += step) {
            int worth = worthWith(what, v);
            if (worth > most) {
                most = worth;
                bestValue = v;
            }
        }
        return bestValue;
    }

    public int roomMore() {
        if (now.box[ROOM] >= GREATEST[ROOM]) return refuseAbove(STATE);
        return worthWith(ROOM, now.box[ROOM] + 1) - worthNow();
    }

    public int twoPull() {
        return worthWith(PULLS, (now.box[PULLS] + 1) / 2) - worthNow();
    }

    public int stairs(int what) {
        if (what != 0 && what != 1) return refuseAbove(OTHER);
        int without = worthNow();
        int most = without;
        int who = NONE;
        for (int d = 0; d < now.dishes; d++) {
            evening.pass(now, now.order, d);
            if (evening.totals[WORTH] > most) {
                most = evening.totals[WORTH];
                who = d;
            }
        }
        return what == 0 ? who : most - without;
    }

    public int forgotten(int dish) {
        if (!now.hasDish(dish)) return refuseAbove(NOBODY);
        int before = worthNow();
        int n = 0;
        for (int i = 0; i < now.dishes; i++) {
            if (now.order[i] != dish) {
                found[n] = now.order[i];
                n++;
            }
        }
        found[n] = dish;
        evening.pass(now, found, NO_DISH);
        return before - evening.totals[WORTH];
    }

    public int halved(int course) {
        if (course < -1) return refuse(BELOW);
        if (course >= COURSES) return refuse(NOBODY);
        lookAtNow();
        if (course >= 0) return evening.isHalved(now, course) ? 1 : 0;
        int n = 0;
        for (int c = 0; c < COURSES; c++) {
            if (evening.isHalved(now, c)) n++;
        }
        return n;
    }

    public int heard(int n) {
        if (n < 0) return refuse(BELOW);
        if (n > GREATEST_SECOND) return refuse(NO_ROOM);
        for (int c = COURSES - 1; c >= 0; c--) {
            if (now.beginOf(c) <= n) return c;
        }
        return NONE;
    }

    public int waits(int n) {
        if (n < 0) return refuse(BELOW);
        if (n > GREATEST_SECOND) return refuse(NO_ROOM);
        lookAtNow();
        int bits = 0;
        for (int d = 0; d < now.dishes; d++) {
            if (evening.up[d] > n && now.beginOf(now.course[d]) <= n) bits |= 1 << d;
        }
        return bits;
    }

    public int send(int course) {
        if (!isCourse(course)) return refuse(NOBODY);
        lookAtNow();
        int lastUp = NONE;
        for (int d = 0; d < now.dishes; d++) {
            if (now.course[d] == course) lastUp = Math.max(lastUp, evening.up[d]);
        }
        if (lastUp < 0) return refuse(STATE);
        // Each second of SET OUT brings all up a second later, so the latest that is in time lets them stand least.
        int latest = now.beginOf(course) - (lastUp - now.box[SET_OUT]);
        return latest < 0 ? NONE : Math.min(latest, GREATEST[SET_OUT]);
    }

    public int row(int v) {
        if (v < 0) return refuse(BELOW);
        if (v > GREATEST_IN_ROW || toldCount >= MOST_IN_ROW) return refuse(NO_ROOM);
        told[toldCount] = v;
        toldCount++;
        return toldCount;
    }

    public int fits(int i) {
        if (i < -1) return refuse(BELOW);
        if (i >= now.dishes) return refuse(NOBODY);
        int fitting = findFitting();
        if (i < 0) return fitting;
        return fitting == 0 ? NONE : found[i];
    }

    public int judge() {
        int answer = firstNotSo(now.order);
        toldCount = 0;
        return answer;
    }

    public int lots(int n, int z) {
        if (n < 1) return refuse(BELOW);
        if (n > MOST_EVENINGS) return refuse(NO_ROOM);
        trial.takeOver(now);
        int seed = z;
        int late = 0;
        for (int e = 0; e < n; e++) {
            for (int c = 0; c < COURSES; c++) {
                seed = seed * 1664525 + 1013904223;
                trial.told[c] = (seed & 0x7fffffff) / 256 % (GREATEST_TOLD + 1);
            }
            evening.pass(trial, trial.order, NO_DISH);
            late += evening.totals[LATE];
        }
        return late;
    }

    public int image() {
        kept.takeOver(now);
        hasKept = true;
        return now.dishes;
    }

    public int on() {
        if (!hasKept) return refuse(STATE);
        now.takeOver(kept);
        return now.dishes;
    }

    public int count(int what) {
        switch (what) {
            case 0: return now.dishes;
            case 1: return now.sumOf(now.weight);
            case 2: return now.sumOf(now.plates);
            case 3: return now.box[ROOM];
            case 4: return now.box[BALANCE];
            case 5: return now.box[PULLS];
            case 6: return now.box[HASTE];
            case 7: return now.box[SET_OUT];
            case 8: return toldCount;
            case 9: return telling.length;
            default: return what >= 11 && what <= 16 ? refusals[what - 11] : NONE;
        }
    }

    private int refuse(int number) {
        int kind = -number - 1;
        if (kind >= 0 && kind < KINDS_OF_REFUSAL) refusals[kind]++;
        return number;
    }

    /** Where a true answer may be below 0, a refusal is told far above all of them. */
    private int refuseAbove(int number) {
        return ABOVE_ALL_ANSWERS - refuse(number);
    }

    private static boolean isCourse(int course) {
        return course >= 0 && course < COURSES;
    }

    private static boolean isTotal(int what) {
        return what >= 0 && what < TOTALS;
    }

    /** All statements are tried on a copy, so that a fault behind good ones leaves nothing of them. */
    private int becomeKitchen() {
        int misplaced = telling.firstMisplaced();
        if (misplaced >= 0) return NO_SUCH_LETTER - misplaced;
        trial.takeOver(now);
        int statements = 0;
        int at = 0;
        while (at < telling.length && statements < MOST_LETTERS) {
            if (!telling.tellTo(trial, at)) return NOT_AS_IT_MUST_BE - at;
            at += telling.lengthFrom(at);
            statements++;
        }
        now.takeOver(trial);
        return statements;
    }

    private void lookAtNow() {
        evening.pass(now, now.order, NO_DISH);
    }

    private int worthNow() {
        lookAtNow();
        return evening.totals[WORTH];
    }

    private int worthWith(int what, int v) {
        trial.takeOver(now);
        trial.box[what] = v;
        evening.pass(trial, trial.order, NO_DISH);
        return evening.totals[WORTH];
    }

    /** Leaves the best order in found; orders come by dishes, so only a better one takes the place of an earlier. */
    private int findBest(int what) {
        boolean wantsMost = what == WARM || what == WORTH;
        int bestValue = 0;
        boolean more = true;
        orders.start(now.dishes);
        for (int n = 0; n < MOST_ORDERS && more; n++) {
            evening.pass(now, orders.line, NO_DISH);
            int value = evening.totals[what];
            if (n == 0 || (wantsMost ? value > bestValue : value < bestValue)) {
                bestValue = value;
                System.arraycopy(orders.line, 0, found, 0, MOST_DISHES);
            }
            more = orders.advance();
        }
        return bestValue;
    }

    /** How many orders fit the row; the first of them is left in found. */
    private int findFitting() {
        int fitting = 0;
        boolean more = true;
        orders.start(now.dishes);
        for (int n = 0; n < MOST_ORDERS && more; n++) {
            if (firstNotSo(orders.line) == NONE) {
                if (fitting == 0) System.arraycopy(orders.line, 0, found, 0, MOST_DISHES);
                fitting++;
            }
            more = orders.advance();
        }
        return fitting;
    }

    private int firstNotSo(int[] order) {
        evening.pass(now, order, NO_DISH);
        for (int i = 0; i < toldCount; i++) {
            if (i >= now.dishes || evening.go[order[i]] != told[i]) return i;
        }
        return NONE;
    }

    /** All that an image keeps: the dishes, their order, the box and the table. */
    private static final class Kitchen {
        int dishes;
        final int[] kind = new int[MOST_DISHES];
        final int[] weight = new int[MOST_DISHES];
        final int[] heat = new int[MOST_DISHES];
        final int[] plates = new int[MOST_DISHES];
        final int[] course = new int[MOST_DISHES];
        final int[] order = new int[MOST_DISHES];
        final int[] told = new int[COURSES];
        final int[] box = {6, 3, 8, 11, 0, 0};

        void takeOver(Kitchen other) {
            dishes = other.dishes;
            System.arraycopy(other.kind, 0, kind, 0, MOST_DISHES);
            System.arraycopy(other.weight, 0, weight, 0, MOST_DISHES);
            System.arraycopy(other.heat, 0, heat, 0, MOST_DISHES);
            System.arraycopy(other.plates, 0, plates, 0, MOST_DISHES);
            System.arraycopy(other.course, 0, course, 0, MOST_DISHES);
            System.arraycopy(other.order, 0, order, 0, MOST_DISHES);
            System.arraycopy(other.told, 0, told, 0, COURSES);
            System.arraycopy(other.box, 0, box, 0, box.length);
        }

        boolean hasDish(int dish) {
            return dish >= 0 && dish < dishes;
        }

        int whereIs(int dish) {
            for (int i = 0; i < dishes; i++) {
                if (order[i] == dish) return i;
            }
            return NOBODY;
        }

        boolean swap(int one, int other) {
            if (one == other || !hasDish(one) || !hasDish(other)) return false;
            for (int i = 0; i < dishes; i++) {
                if (order[i] == one) order[i] = other;
                else if (order[i] == other) order[i] = one;
            }
            return true;
        }

        boolean addDish(int itsKind, int itsWeight, int itsHeat, int itsPlates, int itsCourse) {
            if (dishes >= MOST_DISHES || itsKind < 0) return false;
            if (itsWeight < 1 || itsPlates < 1 || itsPlates > 6 || !isCourse(itsCourse)) return false;
            kind[dishes] = itsKind;
            weight[dishes] = itsWeight;
            heat[dishes] = itsHeat;
            plates[dishes] = itsPlates;
            course[dishes] = itsCourse;
            order[dishes] = dishes;
            dishes++;
            return true;
        }

        boolean putInBox(int what, int v) {
            if (v < LEAST[what] || v > GREATEST[what]) return false;
            box[what] = v;
            return true;
        }

        boolean putBegin(int itsCourse, int v) {
            if (!isCourse(itsCourse)) return false;
            told[itsCourse] = v;
            return true;
        }

        int beginOf(int itsCourse) {
            return 100 * itsCourse + told[itsCourse];
        }

        int secondsWith(int load) {
            int apart = Math.abs(load - box[BALANCE]);
            return box[PULLS] * Math.max(1, 1 + apart / 4 - box[HASTE]);
        }

        int sumOf(int[] numbers) {
            int sum = 0;
            for (int d = 0; d < dishes; d++) sum += numbers[d];
            return sum;
        }
    }

    /** The letters that have come, and what they say. */
    private static final class Telling {
        final int[] letters = new int[MOST_LETTERS];
        int length;

        int add(int c) {
            if (length < MOST_LETTERS) {
                letters[length] = c;
                length++;
            }
            return length;
        }

        /** What stands behind a statement's letter: k a kind's letter, 0 a digit; empty for no statement. */
        private static String formOf(int c) {
            switch (c) {
                case 'd': return "k00000;";
                case 'b': return "0000000;";
                case 'c': return "000;";
                case 'h': return "0;";
                case 'o': return "000;";
                case 'x': return "00;";
                default: return "";
            }
        }

        private static boolean suits(int c, char wanted) {
            if (wanted == 'k') return KIND_LETTERS.indexOf((char) c) >= 0;
            if (wanted == '0') return c >= '0' && c <= '9';
            return c == wanted;
        }

        /** The place of the first letter with which no kitchen can go on, the end if something lacks, -1 if all is well. */
        int firstMisplaced() {
            String form = "";
            int done = 0;
            for (int i = 0; i < length; i++) {
                if (done >= form.length()) {
                    form = formOf(letters[i]);
                    done = 0;
                    if (form.isEmpty()) return i;
                } else {
                    if (!suits(letters[i], form.charAt(done))) return i;
                    done++;
                }
            }
            return length == 0 || done < form.length() ? length : -1;
        }

        int lengthFrom(int at) {
            return 1 + formOf(letterAt(at)).length();
        }

        private int letterAt(int at) {
            return at >= 0 && at < length ? letters[at] : -1;
        }

        private int number(int at, int digits) {
            int v = 0;
            for (int i = 0; i < digits; i++) v = 10 * v + letterAt(at + i) - '0';
            return v;
        }

        /** Whether the statement at a place is as it must be; if so it has come into the kitchen. */
        boolean tellTo(Kitchen kitchen, int at) {
            switch (letterAt(at)) {
                case 'd':
                    return kitchen.addDish(KIND_LETTERS.indexOf((char) letterAt(at + 1)),
                            number(at + 2, 1), number(at + 3, 2), number(at + 5, 1), number(at + 6, 1));
                case 'b':
                    return kitchen.putInBox(ROOM, number(at + 1, 2)) && kitchen.putInBox(SELF, number(at + 3, 1))
                            && kitchen.putInBox(BALANCE, number(at + 4, 2)) && kitchen.putInBox(PULLS, number(at + 6, 2));
                case 'c': return kitchen.putBegin(number(at + 1, 1), number(at + 2, 2));
                case 'h': return kitchen.putInBox(HASTE, number(at + 1, 1));
                case 'o': return kitchen.putInBox(SET_OUT, number(at + 1, 3));
                case 'x': return kitchen.swap(number(at + 1, 1), number(at + 2, 1));
                default: return false;
            }
        }
    }

    /** One evening by one order: its rows are used again by the next, since a search passes many. */
    private static final class Evening {
        private static final int BY_STAIRS_SECONDS = 60;
        private static final int BY_STAIRS_SLOPS = 2;
        private static final int A_SLOP_COSTS = 5;

        private final Plain[] kinds = {new Plain(), new Soup(), new Lidded(), new Cold(), new Gravy(), new Roast()};
        private final int[] line = new int[MOST_DISHES];
        private int inLine;
        final int[] up = new int[MOST_DISHES];
        final int[] served = new int[MOST_DISHES];
        final int[] warm = new int[MOST_DISHES];
        final int[] late = new int[MOST_DISHES];
        final int[] go = new int[MOST_DISHES];
        final int[] stood = new int[MOST_DISHES];
        final int[] slops = new int[MOST_DISHES];
        final int[] totals = new int[TOTALS];

        void pass(Kitchen kitchen, int[] order, int byStairs) {
            lineUp(kitchen, order, byStairs);
            carryAll(kitchen);
            if (kitchen.hasDish(byStairs)) up[byStairs] = kitchen.box[SET_OUT] + BY_STAIRS_SECONDS;
            for (int d = 0; d < kitchen.dishes; d++) serve(kitchen, d);
            if (kitchen.hasDish(byStairs)) slops[byStairs] += BY_STAIRS_SLOPS;
            sumUp(kitchen);
        }

        private void lineUp(Kitchen kitchen, int[] order, int byStairs) {
            inLine = 0;
            for (int i = 0; i < kitchen.dishes; i++) {
                if (order[i] != byStairs) {
                    line[inLine] = order[i];
                    inLine++;
                }
            }
        }

        private void carryAll(Kitchen kitchen) {
            int self = kitchen.box[SELF];
            int second = kitchen.box[SET_OUT];
            int first = 0;
            int gone = 0;
            while (first < inLine && gone < MOST_DISHES) {
                int behind = behindGo(kitchen, first);
                int load = self;
                for (int i = first; i < behind; i++) load += kitchen.weight[line[i]];
                second += kitchen.secondsWith(load);
                for (int i = first; i < behind; i++) {
                    up[line[i]] = second;
                    go[line[i]] = gone;
                }
                second += kitchen.secondsWith(self);
                first = behind;
                gone++;
            }
            totals[LAST_DOWN] = second;
            totals[GO_COUNT] = gone;
        }

        /** The place in the line behind the last dish that goes with the first one. */
        private int behindGo(Kitchen kitchen, int first) {
            int behind = first + 1;
            if (kindOf(kitchen, line[first]).isAlone()) return behind;
            int plates = kitchen.plates[line[first]];
            for (int i = behind; i < inLine; i++) {
                plates += kitchen.plates[line[i]];
                if (plates > kitchen.box[ROOM] || kindOf(kitchen, line[i]).isAlone()) return i;
            }
            return inLine;
        }

        private Plain kindOf(Kitchen kitchen, int dish) {
            int kind = kitchen.kind[dish];
            return kind >= 0 && kind < kinds.length ? kinds[kind] : kinds[0];
        }

        private void serve(Kitchen kitchen, int d) {
            Plain kind = kindOf(kitchen, d);
            int begin = kitchen.beginOf(kitchen.course[d]);
            served[d] = Math.max(up[d], begin);
            warm[d] = Math.max(0, kitchen.heat[d] - kind.cooled(served[d]));
            late[d] = Math.max(0, up[d] - begin);
            stood[d] = served[d] - up[d];
            slops[d] = kind.slopped(kitchen.box[HASTE]);
        }

        private void sumUp(Kitchen kitchen) {
            totals[LATE] = kitchen.sumOf(late);
            totals[MOST_LATE] = 0;
            for (int d = 0; d < kitchen.dishes; d++) totals[MOST_LATE] = Math.max(totals[MOST_LATE], late[d]);
            totals[WARM] = kitchen.sumOf(warm);
            totals[SLOPPED] = kitchen.sumOf(slops);
            totals[STOOD] = kitchen.sumOf(stood);
            totals[WORTH] = totals[WARM] - totals[LATE] - A_SLOP_COSTS * totals[SLOPPED];
        }

        boolean isHalved(Kitchen kitchen, int course) {
            int itsGo = NONE;
            for (int d = 0; d < kitchen.dishes; d++) {
                if (kitchen.course[d] == course) {
                    if (itsGo != NONE && itsGo != go[d]) return true;
                    itsGo = go[d];
                }
            }
            return false;
        }
    }

    /** All orders of so many dishes, the first by dishes first. */
    private static final class Orders {
        final int[] line = new int[MOST_DISHES];
        private int dishes;

        void start(int count) {
            dishes = count;
            for (int i = 0; i < dishes; i++) line[i] = i;
        }

        /** The next order by dishes; false if this was the last. */
        boolean advance() {
            int turn = dishes - 2;
            while (turn >= 0 && line[turn] > line[turn + 1]) turn--;
            if (turn < 0) return false;
            int next = dishes - 1;
            while (next > turn && line[next] < line[turn]) next--;
            swapPlaces(turn, next);
            // Behind the turn all stood falling: turned round, it is the least that can stand there.
            for (int i = turn + 1, j = dishes - 1; i < j; i++, j--) swapPlaces(i, j);
            return true;
        }

        private void swapPlaces(int i, int j) {
            int was = line[i];
            line[i] = line[j];
            line[j] = was;
        }
    }

    /** What the kinds do: each is told as the one that it is under, where it tells nothing else itself. */
    private static class Plain {
        int cooled(int seconds) {
            return seconds / 10;
        }

        int slopped(int haste) {
            return 0;
        }

        boolean isAlone() {
            return false;
        }
    }

    private static class Soup extends Plain {
        int slopped(int haste) {
            return haste * 4;
        }
    }

    private static class Lidded extends Plain {
        int cooled(int seconds) {
            return underLid(super.cooled(seconds));
        }

        static int underLid(int cooledOpen) {
            return cooledOpen / 2;
        }
    }

    private static final class Cold extends Lidded {
        int cooled(int seconds) {
            return 0;
        }
    }

    private static final class Gravy extends Soup {
        int cooled(int seconds) {
            return Lidded.underLid(super.cooled(seconds));
        }

        int slopped(int haste) {
            return super.slopped(haste) + 1;
        }
    }

    private static final class Roast extends Plain {
        int cooled(int seconds) {
            return super.cooled(seconds) + 1;
        }

        boolean isAlone() {
            return true;
        }
    }
}
