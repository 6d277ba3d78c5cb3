/** Promises 10 to 12: strings, string, leap. */
public final class StringsTest {
    private static final Due DUE = new Due("StringsTest");
    private static final int MIN = Integer.MIN_VALUE, MAX = Integer.MAX_VALUE;

    public static void main(String[] args) {
        strings();
        stringsOfFirstBoxes();
        fullRows();
        sorted();
        latestStay();
        wrongStrings();
        leapIsSteps();
        leapBack();
        leapEdges();
        leapRefused();
        leapRefusedByRoom();
        leapWrong();
        DUE.end();
    }

    /** Due: for each string its length, its rigging, the room left. */
    private static void isStrings(String what, Boxes x, int n, int... due) {
        DUE.is(what + ": strings(" + n + ")", x.strings(n), due.length / 3);
        DUE.is(what + ": count(3)", x.count(3), due.length / 3);
        for (int k = 0; k < due.length; k++) {
            DUE.is(what + ": string(" + k / 3 + ", " + k % 3 + ")", x.string(k / 3, k % 3), due[k]);
        }
        DUE.is(what + ": one too many", x.string(due.length / 3, 0), -1000);
    }

    private static void strings() {
        isStrings("none", new Boxes(), 240);
        isStrings("box 0", Boxes.of("1"), 240, 1, -1, 238);
        isStrings("box 239", Boxes.of("0".repeat(239) + "1"), 240, 1, 238, 238);
        // at box 4 both are tight, and the longer one becomes longer
        isStrings("two are tight", Boxes.of("11011"), 240, 3, -3, 232, 1, 0, 236);
        isStrings("3 and 1", Boxes.of("1110010"), 240, 3, -3, 232, 1, 2, 236);
        isStrings("4, 2, 1", Boxes.of("0000000000111100110010"), 240, 4, 6, 226, 2, 10, 230, 1, 15, 234);
    }

    private static void stringsOfFirstBoxes() {
        Boxes x = Boxes.of("1110010");
        isStrings("no boxes", x, 0);
        isStrings("one", x, 1, 1, -1, -1);
        isStrings("two", x, 2, 2, -2, -2);
        isStrings("three", x, 3, 3, -3, -3);
        isStrings("five", x, 5, 3, -3, -1);
        isStrings("six", x, 6, 3, -3, -2, 1, 2, 2);
        isStrings("seven", x, 7, 3, -3, -1, 1, 2, 3);
    }

    private static void fullRows() {
        Boxes all = Boxes.of("1".repeat(240));
        isStrings("all balls", all, 240, 240, -240, -240);
        isStrings("all balls again", all, 240, 240, -240, -240);
        Boxes x = Boxes.of("10".repeat(120));
        DUE.is("every other: strings(240)", x.strings(240), 120);
        for (int i = 0; i < 120; i++) {
            DUE.is("every other: length " + i, x.string(i, 0), 1);
            DUE.is("every other: rigging " + i, x.string(i, 1), -1);
            DUE.is("every other: room " + i, x.string(i, 2), 0);
        }
        DUE.is("every other: string(120, 0)", x.string(120, 0), -1000);
    }

    private static void sorted() {
        // of like lengths the greatest rigging first: the last ball has the greatest one
        isStrings("three of one", Boxes.of("1000100001"), 240, 1, 4, 234, 1, 1, 234, 1, -1, 234);
        Boxes x = Boxes.of("0100011000100111");
        int n = x.strings(240);
        for (int i = 0; i + 1 < n; i++) {
            boolean longer = x.string(i, 0) > x.string(i + 1, 0);
            boolean like = x.string(i, 0) == x.string(i + 1, 0) && x.string(i, 1) >= x.string(i + 1, 1);
            DUE.holds("sorted at " + i, longer || like);
        }
        isHeapsLike(x, n);
    }

    /** The lengths are the sizes of the heaps by pairs. */
    private static void isHeapsLike(Boxes x, int n) {
        DUE.is("as many strings as heaps", n, x.row(3));
        for (int i = 0; i < n; i++) DUE.is("length " + i, x.string(i, 0), x.heap(i));
    }

    private static void latestStay() {
        Boxes x = Boxes.of("1110010");
        DUE.is("before any", x.string(0, 0), -1000);
        DUE.is("before any: count(3)", x.count(3), 0);
        x.strings(6);
        x.set(50, true);
        x.step(2);
        x.leap(3, 2);
        x.leap(50, 1000);
        DUE.is("strings(241)", x.strings(241), -2);
        DUE.is("strings(-1)", x.strings(-1), -2);
        int[] due = {3, -3, -2, 1, 2, 2};
        for (int k = 0; k < due.length; k++) {
            DUE.is("the latest stay: string(" + k / 3 + ", " + k % 3 + ")", x.string(k / 3, k % 3), due[k]);
        }
        DUE.is("count(3)", x.count(3), 2);
        x.empty();
        DUE.is("count(3) of an empty row", x.count(3), 2);
    }

    private static void wrongStrings() {
        Boxes x = Boxes.of("1");
        for (int n : new int[] {-1, 241, MIN, MAX}) DUE.is("strings(" + n + ")", x.strings(n), -2);
        DUE.is("still none", x.string(0, 0), -1000);
        x.strings(240);
        for (int i : new int[] {-1, 1, 240, MIN, MAX}) DUE.is("string(" + i + ", 0)", x.string(i, 0), -1000);
        for (int what : new int[] {-1, 3, MIN, MAX}) DUE.is("string(0, " + what + ")", x.string(0, what), -1000);
        DUE.is("string(0, 0)", x.string(0, 0), 1);
    }

    private static void leapIsSteps() {
        for (String boxes : new String[] {"1", "11101", "1110010", "1011011100010", "111111000110100100"}) {
            for (int r = 1; r <= 8; r++) {
                Boxes stepped = Boxes.of(boxes);
                Boxes leapt = Boxes.of(boxes);
                for (int k = 0; k < 9; k++) stepped.step(r);
                int others = leapt.leap(r, 9);
                DUE.is("changed", others, differ(Boxes.of(boxes), stepped));
                DUE.is(boxes + ": leap(" + r + ", 9) like 9 steps", differ(stepped, leapt), 0);
                DUE.is("one move", leapt.count(4), 1);
            }
        }
    }

    private static int differ(Boxes a, Boxes b) {
        int others = 0;
        for (int k = 0; k < 240; k++) if (a.at(k) != b.at(k)) others++;
        return others;
    }

    private static void leapBack() {
        String boxes = "0011010111000100110001";
        Boxes x = Boxes.of(boxes);
        int there = x.leap(4, 30);
        DUE.holds("there", there > 0);
        DUE.is("and back", x.leap(4, -30), there);
        DUE.is("as it was", differ(x, Boxes.of(boxes)), 0);
        DUE.is("two moves", x.count(4), 2);
        x.leap(2, 7);
        for (int k = 0; k < 7; k++) x.back(2);
        DUE.is("a leap and 7 back", differ(x, Boxes.of(boxes)), 0);
    }

    private static void leapEdges() {
        Boxes x = Boxes.of("11");
        DUE.is("leap(2, 0)", x.leap(2, 0), 0);
        DUE.is("it is done", x.count(4), 1);
        DUE.is("leap(2, 119) to the end", x.leap(2, 119), 4);
        DUE.is("row(2)", x.row(2), 239);
        DUE.is("one more", x.leap(1, 1), -4);
        DUE.is("leap(2, -119) to the start", x.leap(2, -119), 4);
        DUE.is("row(1)", x.row(1), 0);
        DUE.is("one more back", x.leap(1, -1), -4);
        DUE.is("count(4)", x.count(4), 3);
        Boxes none = new Boxes();
        DUE.is("leap(50, 1000) of none", none.leap(50, 1000), 0);
        DUE.is("leap(1, -1000) of none", none.leap(1, -1000), 0);
        DUE.is("both are done", none.count(4), 2);
        Boxes full = Boxes.of("1".repeat(240));
        DUE.is("a full row stays at no times", full.leap(50, 0), 0);
        DUE.is("a full row can't go", full.leap(50, 1), -4);
        DUE.is("nor back", full.leap(50, -1), -4);
        DUE.is("full: row(0)", full.row(0), 240);
    }

    private static void leapRefused() {
        for (int[] a : new int[][] {{1, -1}, {50, -1}, {50, -1000}, {50, 1000}, {1, 1000}, {1, 240}}) {
            Boxes refused = Boxes.of("1110010");
            DUE.is("leap(" + a[0] + ", " + a[1] + ")", refused.leap(a[0], a[1]), -4);
            DUE.is("refused, nothing is changed", differ(refused, Boxes.of("1110010")), 0);
            DUE.is("count(4)", refused.count(4), 0);
        }
        Boxes x = Boxes.of("1110010");
        // the last string to fit: box 5 comes to box 239, all of them by 1 at a time
        DUE.is("leap(1, 234)", x.leap(1, 234), 8);
        DUE.is("row(2)", x.row(2), 239);
    }

    /**
     * Strings of 3 and 1 that would come to riggings 233 (its room is 232) and 236 (its room too): if they were
     * MADE none would be left, so it is the room alone that refuses.
     */
    private static void leapRefusedByRoom() {
        Boxes x = Boxes.of("1110010");
        DUE.holds("leap(2, 2)", x.leap(2, 2) > 0);
        isStrings("leap(2, 2)", x, 240, 3, 1, 232, 1, 4, 236);
        DUE.is("leap(1, 232)", x.leap(1, 232), -4);
        DUE.is("count(4)", x.count(4), 1);
        DUE.holds("leap(1, 231)", x.leap(1, 231) > 0);
        isStrings("leap(1, 231)", x, 240, 3, 232, 232, 1, 235, 236);
    }

    private static void leapWrong() {
        Boxes x = Boxes.of("1");
        for (int r : new int[] {0, -1, 51, MIN, MAX}) DUE.is("leap(" + r + ", 1)", x.leap(r, 1), -2);
        for (int t : new int[] {-1001, 1001, MIN, MAX}) DUE.is("leap(1, " + t + ")", x.leap(1, t), -2);
        DUE.is("BAD ahead of FULL", x.leap(0, -1), -2);
        DUE.is("count(4)", x.count(4), 0);
        DUE.is("at(0)", x.at(0), 1);
    }
}
