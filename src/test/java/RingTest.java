/** Promises 13 to 17: ring, ringAt, turn, period, rings. */
public final class RingTest {
    private static final Due DUE = new Due("RingTest");
    private static final int MIN = Integer.MIN_VALUE, MAX = Integer.MAX_VALUE;

    public static void main(String[] args) {
        ring();
        ringRefused();
        turn();
        turnOverTheEnd();
        turnByRooms();
        period();
        periodSpent();
        rings();
        ringsWrong();
        ringsAddUp();
        DUE.end();
    }

    private static Boxes ringOf(String boxes) {
        Boxes x = Boxes.of(boxes);
        int balls = boxes.replace("0", "").length();
        DUE.is("ring of " + boxes, x.ring(0, boxes.length()), balls);
        isRing("ring of " + boxes, x, boxes);
        return x;
    }

    private static void isRing(String when, Boxes x, String boxes) {
        for (int k = 0; k < boxes.length(); k++) DUE.is(when + ": ringAt(" + k + ")", x.ringAt(k), boxes.charAt(k) - '0');
        for (int box : new int[] {-1, boxes.length(), 64, MIN, MAX}) DUE.is(when + ": ringAt(" + box + ")", x.ringAt(box), -2);
        DUE.is(when + ": count(1)", x.count(1), boxes.length());
        DUE.is(when + ": count(2)", x.count(2), boxes.replace("0", "").length());
    }

    private static void ring() {
        Boxes x = Boxes.of("0".repeat(200) + "1000110" + "0".repeat(33));
        DUE.is("ring(200, 40)", x.ring(200, 40), 3);
        isRing("ring(200, 40)", x, "1000110" + "0".repeat(33));
        DUE.is("ring(201, 6)", x.ring(201, 6), 2);
        isRing("ring(201, 6)", x, "000110");
        x.set(205, false);
        isRing("the row is another thing", x, "000110");
        DUE.is("ring(239, 1)", x.ring(239, 1), 0);
        isRing("ring(239, 1)", x, "0");
        DUE.is("the row stays", x.row(0), 2);
        DUE.is("no move", x.count(4), 0);
    }

    private static void ringRefused() {
        Boxes x = ringOf("0100");
        x.set(0, true);
        x.set(1, true);
        int[][] bad = {
            {0, 0}, {0, -1}, {0, 41}, {0, MIN}, {0, MAX}, {-1, 3}, {MIN, 3}, {240, 1}, {MAX, 1}, {MAX, 40}, {239, 2}, {201, 40}
        };
        for (int[] a : bad) DUE.is("ring(" + a[0] + ", " + a[1] + ")", x.ring(a[0], a[1]), -2);
        DUE.is("2 balls of 4", x.ring(0, 4), -3);
        DUE.is("2 balls of 3", x.ring(0, 3), -3);
        DUE.is("1 ball of 1", x.ring(0, 1), -3);
        DUE.is("1 ball of 2", x.ring(1, 2), -3);
        isRing("refusals change nothing", x, "0100");
        DUE.is("2 balls of 5", x.ring(0, 5), 2);
        DUE.is("1 ball of 3", x.ring(1, 3), 1);
        Boxes many = Boxes.of("10".repeat(19) + "00");
        DUE.is("19 balls of 40", many.ring(0, 40), 19);
        many.set(39, true);
        DUE.is("20 balls of 40", many.ring(0, 40), -3);
        DUE.is("19 of 39", many.ring(0, 39), 19);
    }

    private static void turn() {
        Boxes x = ringOf("11001000");
        DUE.is("turn(1)", x.turn(1), 0);
        isRing("turn(1)", x, "01100100");
        DUE.is("turn(2)", x.turn(2), 0);
        isRing("turn(2)", x, "00011010");
        for (int r : new int[] {0, -1, 51, MIN, MAX}) DUE.is("turn(" + r + ")", x.turn(r), -2);
        isRing("refused", x, "00011010");
        DUE.is("a turn is no step", x.count(4), 0);
        Boxes first = new Boxes();
        DUE.is("turn(50) of the first ring", first.turn(50), 0);
        isRing("turn(50) of the first ring", first, "0");
    }

    private static void turnOverTheEnd() {
        Boxes x = ringOf("00011");
        DUE.is("turn(1): taken at 3, left nowhere, 4 stays", x.turn(1), 1);
        isRing("turn(1)", x, "10001");
        DUE.is("turn(2)", x.turn(2), 1);
        isRing("turn(2)", x, "01100");
        Boxes y = ringOf("0000111");
        DUE.is("turn(2) of three", y.turn(2), 2);
        isRing("turn(2) of three", y, "1100001");
        Boxes z = ringOf("0000111");
        DUE.is("turn(50) of three", z.turn(50), 3);
        isRing("turn(50) of three", z, "1110000");
        // the first round from box 0 takes that ball itself, the second begins with one
        Boxes w = ringOf("1000010");
        DUE.is("two apart", w.turn(3), 0);
        isRing("two apart", w, "0100001");
        DUE.is("over the end", w.turn(3), 1);
        isRing("over the end", w, "1010000");
    }

    private static void turnByRooms() {
        Boxes x = ringOf("1".repeat(19) + "0".repeat(21));
        DUE.is("turn(50)", x.turn(50), 0);
        isRing("turn(50)", x, "0".repeat(19) + "1".repeat(19) + "00");
        DUE.is("turn(19)", x.turn(19), 17);
        isRing("turn(19)", x, "1".repeat(17) + "0".repeat(21) + "11");
    }

    private static void period() {
        Boxes x = ringOf("11001000");
        int[] due = {8, 16, 16};
        for (int r = 1; r <= 3; r++) DUE.is("period(" + r + ")", x.period(r), due[r - 1]);
        DUE.is("period(50)", x.period(50), 16);
        isRing("the ring stays", x, "11001000");
        for (int r : new int[] {0, -1, 51, MIN, MAX}) DUE.is("period(" + r + ")", x.period(r), -2);
        DUE.is("of the first ring", new Boxes().period(1), 1);
        DUE.is("of no balls", ringOf("0000").period(3), 1);
        DUE.is("of like parts", ringOf("100100100").period(1), 3);
        DUE.is("of one ball", ringOf("0".repeat(39) + "1").period(7), 40);
        DUE.is("two balls at 40 boxes go by 2", ringOf("11" + "0".repeat(38)).period(2), 20);
        DUE.is("three balls at 40 boxes go by 3", ringOf("111" + "0".repeat(37)).period(3), 40);
        turnedSoOften("1101000100010000", 2);
        turnedSoOften("1101100100001000001", 3);
        turnedSoOften("00011", 1);
    }

    /** Turned one by one, each time as the ring of another object, since a period may be longer than one's calls. */
    private static void turnedSoOften(String was, int r) {
        int period = ringOf(was).period(r);
        DUE.holds("a period of " + was, period > 1);
        String now = was;
        for (int t = 1; t <= period; t++) {
            now = turned(now, r);
            DUE.holds(was + " as it was behind " + t + " of " + period, now.equals(was) == (t == period));
        }
    }

    private static String turned(String ring, int r) {
        Boxes x = ringOf(ring);
        x.turn(r);
        StringBuilder then = new StringBuilder();
        for (int k = 0; k < ring.length(); k++) then.append(x.ringAt(k));
        return then.toString();
    }

    /** Rings with the periods that lie nearest to 20000 on both sides: 19800 and 20007. */
    private static void periodSpent() {
        Boxes below = ringOf("0000000000001110000001111100110001101000");
        DUE.is("a period just below 20000", below.period(8), 19800);
        String beyond = "111111100000110100000111111000001100010";
        Boxes x = ringOf(beyond);
        DUE.is("a period just beyond 20000", x.period(8), -5);
        isRing("the ring stays", x, beyond);
        DUE.is("by room 1 it is not", x.period(1), 39);
    }

    private static void rings() {
        DUE.is("rings(5, 2, 1, 0)", new Boxes().rings(5, 2, 1, 0), 10);
        Boxes x = ringOf("010");
        for (int r : new int[] {1, 2, 50}) {
            DUE.is("one box", x.rings(1, 0, r, 1), 1);
            DUE.is("one box, all", x.rings(1, 0, r, 0), 1);
            DUE.is("one box, by 2", x.rings(1, 0, r, 2), 0);
            DUE.is("12 boxes, none", x.rings(12, 0, r, 1), 1);
            DUE.is("12 boxes, 1", x.rings(12, 1, r, 12), 12);
            DUE.is("12 boxes, 1, by another", x.rings(12, 1, r, 6), 0);
            DUE.is("12 boxes, 5, all", x.rings(12, 5, r, 0), 792);
            DUE.is("3 boxes, 1", x.rings(3, 1, r, 3), 3);
        }
        // by room 1 a ring is turned by one box: 2 of 4 boxes apart have half a round
        DUE.is("8 boxes, 2, by 4", x.rings(8, 2, 1, 4), 4);
        DUE.is("8 boxes, 2, by 8", x.rings(8, 2, 1, 8), 24);
        // by room 2 balls side by side go on by 2 boxes a turn, others by 1; 6 rings are like a half round on
        DUE.is("11 boxes, 2, by room 2: 11", x.rings(11, 2, 2, 11), 55);
        DUE.is("12 boxes, 2, by room 2: 6", x.rings(12, 2, 2, 6), 12 + 6);
        DUE.is("12 boxes, 2, by room 2: 12", x.rings(12, 2, 2, 12), 48);
        DUE.is("a far period", x.rings(12, 5, 3, MAX), 0);
        DUE.is("beyond 20000", x.rings(12, 5, 3, 20001), 0);
        isRing("the ring stays", x, "010");
    }

    private static void ringsWrong() {
        Boxes x = new Boxes();
        int[][] bad = {
            {0, 0, 1, 0}, {-1, 0, 1, 0}, {13, 1, 1, 0}, {MIN, 0, 1, 0}, {MAX, 1, 1, 0}, {1, 1, 1, 0}, {2, 1, 1, 0},
            {6, 3, 1, 0}, {12, 6, 1, 0}, {12, 7, 1, 0}, {5, 3, 1, 0}, {5, -1, 1, 0}, {5, MIN, 1, 0}, {5, MAX, 1, 0},
            {5, 1 << 30, 1, 0}, {5, 2, 0, 0}, {5, 2, -1, 0}, {5, 2, 51, 0}, {5, 2, MAX, 0}, {5, 2, 1, -1}, {5, 2, 1, MIN}
        };
        for (int[] a : bad) {
            DUE.is("rings" + java.util.Arrays.toString(a), x.rings(a[0], a[1], a[2], a[3]), -2);
        }
        DUE.is("12 boxes, 5 balls", x.rings(12, 5, 50, 0), 792);
        DUE.is("11 boxes, 5 balls", x.rings(11, 5, 50, 0), 462);
    }

    /** Every ring has some period, and each one's own is what period() tells. */
    private static void ringsAddUp() {
        int n = 9;
        for (int m = 0; m <= 4; m++) {
            for (int r = 1; r <= 5; r++) {
                int[] with = new int[400];
                int all = 0;
                for (int bits = 0; bits < 1 << n; bits++) {
                    if (Integer.bitCount(bits) != m) continue;
                    Boxes x = new Boxes();
                    for (int k = 0; k < n; k++) x.set(k, (bits >> k & 1) != 0);
                    x.ring(0, n);
                    int period = x.period(r);
                    DUE.holds("a period", period > 0 && period < with.length);
                    with[period]++;
                    all++;
                }
                Boxes x = new Boxes();
                DUE.is("all", x.rings(n, m, r, 0), all);
                for (int p = 1; p < with.length; p++) DUE.is("rings(9, " + m + ", " + r + ", " + p + ")", x.rings(n, m, r, p), with[p]);
            }
        }
    }
}
