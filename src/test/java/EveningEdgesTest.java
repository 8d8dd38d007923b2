/** Part I's KINDS and GOES at their edges: each sentence that cuts, or tells a least, is looked at on both sides of it. */
public final class EveningEdgesTest {
    private static final Check check = new Check("EveningEdgesTest");
    private static final String KINDS = "dslkga";

    public static void main(String[] args) {
        coolsByTen();
        slopsByHaste();
        oneAtLeast();
        apartByFourCut();
        noMoreThanRoom();
        oneAtLeastThoughItHasMore();
        alone();
        eachNextWhenTheOneAheadIsDown();
        setsOutAtSetOut();
        servedThenOrWhenItBegins();
        warmNoughtAtLeast();
        lateNoughtAtLeast();
        worthBelowNought();
        longestEvening();
        check.end();
    }

    /** One DISH with SELF 3, WEIGHT 1 and BALANCE 4: with PULLS 1 it is up one SECOND behind SET OUT, whichever HASTE. */
    private static BoxOnARope upAt(char kind, int course, int second) {
        BoxOnARope box = Check.told("d" + kind + "1991" + course + ";b0630401;");
        box.set(5, second - 1);
        check.due("UP", box.of(0, 0), second);
        return box;
    }

    /** "d DISH: n by 10, cut"; "half of a DISH's, cut"; "COLD: 0"; "as a LIDDED one's"; "COOLS 1 more". */
    private static void coolsByTen() {
        int[] seconds = {1, 9, 10, 19, 20, 29, 30, 39, 40, 99, 100, 399, 400};
        int[] open = {0, 0, 1, 1, 2, 2, 3, 3, 4, 9, 10, 39, 40};
        int[] lidded = {0, 0, 0, 0, 1, 1, 1, 1, 2, 4, 5, 19, 20};
        for (int i = 0; i < seconds.length; i++) {
            int[] due = {open[i], open[i], lidded[i], 0, lidded[i], open[i] + 1};
            for (int k = 0; k < 6; k++) {
                check.due(KINDS.charAt(k) + " at " + seconds[i] + " has cooled", 99 - upAt(KINDS.charAt(k), 0, seconds[i]).of(0, 2), due[k]);
            }
        }
        // SERVED at 499, the latest begin there is, though up long ahead of it.
        int[] latest = {49, 49, 24, 0, 24, 50};
        for (int k = 0; k < 6; k++) {
            BoxOnARope box = upAt(KINDS.charAt(k), 4, 1);
            box.begins(4, 99);
            check.due(KINDS.charAt(k) + " at 499 has cooled", 99 - box.of(0, 2), latest[k]);
        }
    }

    /** "What SLOPS by HASTE": 0; "HASTE times 4"; GRAVY "1 more" than a SOUP; LIDDED, COLD and ROAST as a DISH. */
    private static void slopsByHaste() {
        int[][] due = {{0, 0, 0, 0, 1, 0}, {0, 4, 0, 0, 5, 0}, {0, 8, 0, 0, 9, 0}};
        for (int haste = 0; haste <= 2; haste++) {
            for (int k = 0; k < 6; k++) {
                BoxOnARope box = upAt(KINDS.charAt(k), 0, 1);
                box.set(4, haste);
                check.due(KINDS.charAt(k) + " with HASTE " + haste, box.of(0, 6), due[haste][k]);
                check.due(KINDS.charAt(k) + " with HASTE " + haste + ", together", box.total(3), due[haste][k]);
                check.due(KINDS.charAt(k) + " with HASTE " + haste + ", WORTH", box.total(7), box.of(0, 2) - 1 - 5 * due[haste][k]);
            }
        }
    }

    /** "Less HASTE, 1 at least": 1, 2, 3 and 4 times PULLS, less HASTE. */
    private static void oneAtLeast() {
        int[] apart = {0, 3, 4, 7, 8, 11, 12};
        int[][] times = {{1, 1, 2, 2, 3, 3, 4}, {1, 1, 1, 1, 2, 2, 3}, {1, 1, 1, 1, 1, 1, 2}};
        for (int haste = 0; haste <= 2; haste++) {
            for (int pulls : new int[] {1, 11, 20}) {
                BoxOnARope box = new BoxOnARope();
                box.set(2, 20);
                box.set(3, pulls);
                box.set(4, haste);
                for (int i = 0; i < apart.length; i++) {
                    check.due("HASTE " + haste + ", " + apart[i] + " less: goes", box.goes(20 - apart[i]), pulls * times[haste][i]);
                    check.due("HASTE " + haste + ", " + apart[i] + " more: goes", box.goes(20 + apart[i]), pulls * times[haste][i]);
                }
            }
        }
    }

    /** "Its load .. and BALANCE apart, by 4, cut": every load 0 .. 99 with BALANCE at its least and its greatest. */
    private static void apartByFourCut() {
        BoxOnARope box = new BoxOnARope();
        box.set(3, 1);
        for (int load = 0; load <= 99; load++) {
            box.set(2, 0);
            check.due("BALANCE 0: goes(" + load + ")", box.goes(load), 1 + load / 4);
            box.set(2, 40);
            int apart = load < 40 ? 40 - load : load - 40;
            check.due("BALANCE 40: goes(" + load + ")", box.goes(load), 1 + apart / 4);
        }
        for (int what = 11; what <= 16; what++) check.due("none is refused: count(" + what + ")", box.count(what), 0);
    }

    /** "While their PLATES together are no more than ROOM": every two PLATES with every ROOM. */
    private static void noMoreThanRoom() {
        for (int one = 1; one <= 6; one++) {
            for (int other = 1; other <= 6; other++) {
                BoxOnARope box = Check.told("dd100" + one + "0;dd100" + other + "0;");
                for (int room = 1; room <= 11; room++) {
                    box.set(0, room);
                    String what = one + " and " + other + " PLATES in ROOM " + room;
                    check.due(what + ": the first one's GO", box.of(0, 4), 0);
                    check.due(what + ": the other's GO", box.of(1, 4), one + other <= room ? 0 : 1);
                    check.due(what + ": GOES", box.total(6), one + other <= room ? 1 : 2);
                }
            }
        }
        goesAre("the third one makes it too many", "b0530811;dd10020;dd10030;dd10010;", "001");
        goesAre("the third one just fits", "b0630811;dd10020;dd10030;dd10010;", "000");
        goesAre("what is too many for one GO counts for the next", "b0630811;dd10060;dd10050;dd10010;dd10010;", "0112");
        goesAre("a later one that would fit does not overtake", "b0630811;dd10050;dd10020;dd10010;", "011");
        goesAre("six with just ROOM", "b1130811;dd10020;dd10020;dd10020;dd10020;dd10020;dd10010;", "000000");
        goesAre("six with one PLATE too much", "b1130811;dd10020;dd10020;dd10020;dd10020;dd10020;dd10020;", "000001");
    }

    private static void goesAre(String what, String text, String due) {
        BoxOnARope box = Check.told(text);
        StringBuilder goes = new StringBuilder();
        for (int d = 0; d < box.count(0); d++) goes.append(box.of(d, 4));
        check.is(what + ": GOES " + goes + ", due are " + due, goes.toString().equals(due));
    }

    /** "One at least, though it has more": then it goes, and nobody with it. */
    private static void oneAtLeastThoughItHasMore() {
        for (int room = 1; room <= 6; room++) {
            for (int plates = room; plates <= 6; plates++) {
                String b = String.format("b%02d30811;", room);
                goesAre(plates + " PLATES first in ROOM " + room, b + "dd100" + plates + "0;dd10010;", "01");
                goesAre(plates + " PLATES last in ROOM " + room, b + "dd10010;dd100" + plates + "0;", "01");
            }
        }
        goesAre("each has more", "b0130811;dd10020;dd10030;dd10040;dd10050;dd10060;da10060;", "012345");
        BoxOnARope box = Check.told("b0130811;dd50060;");
        check.due("it is up as any other", box.of(0, 0), 11);
    }

    /** "None goes ALONE with others": a ROAST of every KIND's neighbour, first, in between, last; the others do not mind. */
    private static void alone() {
        for (int k = 0; k < 6; k++) {
            for (int other = 0; other < 6; other++) {
                String text = "b1130811;d" + KINDS.charAt(k) + "10010;d" + KINDS.charAt(other) + "10010;";
                goesAre("two of " + text, text, k == 5 || other == 5 ? "01" : "00");
            }
        }
        goesAre("first", "b1130811;da10010;dd10010;dd10010;", "011");
        goesAre("in between", "b1130811;dd10010;da10010;dd10010;dd10010;", "0122");
        goesAre("last", "b1130811;dd10010;dd10010;da10010;", "001");
        goesAre("ROASTS alone", "b1130811;da10010;da10010;da10010;da10010;da10010;da10010;", "012345");
        goesAre("a ROAST with more than ROOM", "b0130811;dd10010;da10060;dd10010;", "012");
    }

    /**
     * "Each next one when the one ahead is down again": SELF 0, BALANCE 0, PULLS 1, so DOWN is 1 SECOND and UP 1 and
     * WEIGHT by 4: up at 9 (2), 13 (3), 15 (1), with the box down at 10, 14, 16.
     */
    private static void eachNextWhenTheOneAheadIsDown() {
        BoxOnARope box = Check.told("b0600001;o007;dk49960;dk89960;dk39960;");
        int[] due = {9, 13, 15};
        for (int d = 0; d < 3; d++) check.due("UP of " + d, box.of(d, 0), due[d]);
        check.due("the last GO is down", box.total(5), 16);
        // DOWN is empty: it does not matter what went up, but SELF and BALANCE do.
        box = Check.told("b0690001;dk99960;dk19960;");
        int[] withSelf = {5, 5 + 3 + 3};
        for (int d = 0; d < 2; d++) check.due("SELF 9: UP of " + d, box.of(d, 0), withSelf[d]);
        check.due("SELF 9: the last GO is down", box.total(5), 14);
    }

    /** "The first one sets out at SET OUT": each SECOND of it brings all up a SECOND later. */
    private static void setsOutAtSetOut() {
        for (int from = 0; from <= 400; from += 100) {
            BoxOnARope box = Check.told("dd50060;dd50060;");
            for (int out = from; out < from + 100 && out <= 400; out++) {
                check.due("SET OUT was", box.set(5, out), out == from ? 0 : out - 1);
                check.due("SET OUT " + out + ": UP", box.of(0, 0), out + 11);
                check.due("SET OUT " + out + ": the next one's UP", box.of(1, 0), out + 44);
                check.due("SET OUT " + out + ": down", box.total(5), out + 66);
            }
        }
    }

    /** "SERVED then or when its COURSE BEGINS, whichever is later": a SECOND ahead of the begin, at it, a SECOND behind. */
    private static void servedThenOrWhenItBegins() {
        int[][] coursesAndTold = {{0, 1}, {0, 50}, {0, 99}, {1, 0}, {1, 99}, {2, 50}, {3, 0}, {3, 99}, {4, 0}};
        for (int[] ct : coursesAndTold) {
            int begin = 100 * ct[0] + ct[1];
            for (int off = -1; off <= 1; off++) {
                if (begin + off < 1) continue;
                BoxOnARope box = upAt('k', ct[0], begin + off);
                box.begins(ct[0], ct[1]);
                String what = "up " + off + " behind the begin at " + begin;
                check.due(what + ": SERVED", box.of(0, 1), off > 0 ? begin + 1 : begin);
                check.due(what + ": LATE", box.of(0, 3), off > 0 ? 1 : 0);
                check.due(what + ": STOOD", box.of(0, 5), off < 0 ? 1 : 0);
                for (int w = 0; w <= 1; w++) check.due(what + ": total(" + w + ")", box.total(w), off > 0 ? 1 : 0);
                check.due(what + ": STOOD together", box.total(4), off < 0 ? 1 : 0);
            }
        }
    }

    /** "WARM: HEAT less what it COOLS .., 0 at least": at 100 SECONDS a DISH has cooled by 10, a ROAST by 11, a LIDDED by 5. */
    private static void warmNoughtAtLeast() {
        char[] kinds = {'d', 'a', 'l', 'k'};
        int[] cools = {10, 11, 5, 0};
        for (int k = 0; k < kinds.length; k++) {
            BoxOnARope box = upAt(kinds[k], 0, 100);
            for (int heat = 0; heat <= 12; heat++) {
                box.heat(0, heat);
                int due = heat > cools[k] ? heat - cools[k] : 0;
                check.due(kinds[k] + " of HEAT " + heat + ": WARM", box.of(0, 2), due);
                check.due(kinds[k] + " of HEAT " + heat + ": WARM together", box.total(2), due);
            }
        }
        check.due("a ROAST of HEAT 0 at 1", Check.told("da10010;b0630401;").of(0, 2), 0);
        check.due("a ROAST of HEAT 1 at 1", Check.told("da10110;b0630401;").of(0, 2), 0);
        check.due("a ROAST of HEAT 2 at 1", Check.told("da10210;b0630401;").of(0, 2), 1);
    }

    /** "LATE .. (0 at least)": one ahead of time does not make up for another's being LATE. */
    private static void lateNoughtAtLeast() {
        BoxOnARope box = Check.told("dk50060;dk50064;dk50060;");
        int[] late = {11, 0, 77};
        for (int d = 0; d < 3; d++) check.due("LATE of " + d, box.of(d, 3), late[d]);
        check.due("LATE together", box.total(0), 88);
        check.due("the most LATE", box.total(1), 77);
        check.due("STOOD together", box.total(4), 400 - 44);
    }

    /** "WORTH": below 0 by LATE, by SLOPS, by both. */
    private static void worthBelowNought() {
        BoxOnARope box = upAt('k', 0, 401);
        check.due("WARM 99, LATE 401", box.total(7), -302);
        box.heat(0, 0);
        check.due("WARM 0, LATE 401", box.total(7), -401);
        check.due("the most WORTH of one ORDER", box.best(7), -401);
        box = upAt('g', 4, 1);
        box.heat(0, 0);
        box.set(4, 2);
        check.due("WARM 0, SLOPPED 9", box.total(7), -45);
        box.heat(0, 24);
        check.due("WARM 4 at 400, SLOPPED 9", box.total(7), -41);
    }

    /** As long as an evening can be: PULLS 20, BALANCE 40 and nothing in SELF, from 400 on, each of six by itself. */
    private static void longestEvening() {
        BoxOnARope box = Check.told("b0104020;o400;" + "dd19910;".repeat(6));
        // UP 20 times 1 and 39 by 4 (200), DOWN 20 times 1 and 40 by 4 (220).
        int late = 0;
        for (int d = 0; d < 6; d++) {
            check.due("UP of " + d, box.of(d, 0), 600 + 420 * d);
            check.due("WARM of " + d, box.of(d, 2), d == 0 ? 39 : 0);
            late += 600 + 420 * d;
        }
        check.due("down", box.total(5), 400 + 6 * 420);
        check.due("LATE together", box.total(0), late);
        check.due("the most LATE", box.total(1), 2700);
        check.due("WORTH", box.total(7), 39 - late);
        check.due("at 999 all but the first wait", box.waits(999), 62);
        check.due("at 600 all but the first wait", box.waits(600), 62);
        check.due("at 599 all wait", box.waits(599), 63);
    }
}
