/** Promises 13 to 17: for each sentence that names a boundary case, a test of its own. */
public final class RingBoundsTest {
    private static final Due DUE = new Due("RingBoundsTest");
    private static final int MIN = Integer.MIN_VALUE, MAX = Integer.MAX_VALUE;
    private static final int BAD = -2, NOT = -3, SPENT = -5;
    private static final int[] NO_ROOMS = {MIN, -1, 0, 51, MAX};

    public static void main(String[] args) {
        ringSoMany();
        ringBeyondTheRow();
        ringFewerThanHalf();
        ringBadAheadOfNot();
        ringIsThoseBoxes();
        ringAtFirstAndLast();
        ringAtBeyond();
        turnRooms();
        turnTwice();
        turnOverTheEnd();
        turnFirstRoundChangesNothing();
        turnFewerThanRoom();
        turnOfNone();
        periodRooms();
        periodOneOrMore();
        periodFewest();
        periodRingStays();
        periodSpent();
        ringsSoMany();
        ringsBalls();
        ringsRooms();
        ringsPeriodBelowZero();
        ringsPeriodZero();
        ringsJustThePeriod();
        ringsChangeNothing();
        ringsOfEachPeriod();
        DUE.end();
    }

    private static Boxes ringOf(String boxes) {
        Boxes x = Boxes.of(boxes);
        DUE.holds("a ring of " + boxes, x.ring(0, boxes.length()) >= 0);
        return x;
    }

    private static void isTurn(String ring, int r, int began, String then) {
        Boxes x = ringOf(ring);
        DUE.is("turn(" + r + ") of " + ring, x.turn(r), began);
        DUE.is(ring + " behind turn(" + r + ")", x.ringText(), then);
    }

    // ---- promise 13

    private static void ringSoMany() {
        DUE.by("promise 13", "A RING has N BOXES (1 to 40)");
        Boxes x = new Boxes();
        int[][] boxesAndDue = {{MIN, BAD}, {-1, BAD}, {0, BAD}, {1, 0}, {40, 0}, {41, BAD}, {240, BAD}, {MAX, BAD}};
        for (int[] a : boxesAndDue) {
            int had = x.count(1);
            DUE.is("ring(0, " + a[0] + ")", x.ring(0, a[0]), a[1]);
            DUE.is("count(1)", x.count(1), a[1] == BAD ? had : a[0]);
        }
    }

    private static void ringBeyondTheRow() {
        DUE.by("promise 13", "BAD: n, or beyond THE ROW");
        int[][] good = {{0, 1}, {0, 40}, {200, 40}, {201, 39}, {238, 2}, {239, 1}};
        for (int[] a : good) DUE.is("ring(" + a[0] + ", " + a[1] + ")", new Boxes().ring(a[0], a[1]), 0);
        int[][] bad = {{-1, 1}, {-1, 40}, {201, 40}, {202, 39}, {238, 3}, {239, 2}, {240, 1}, {240, 0}, {MIN, 40}, {MAX, 1}, {MAX, 40}, {MAX, MAX}};
        for (int[] a : bad) DUE.is("ring(" + a[0] + ", " + a[1] + ")", new Boxes().ring(a[0], a[1]), BAD);
    }

    private static void ringFewerThanHalf() {
        DUE.by("promise 13", "NOT: not fewer BALLS than n by 2");
        for (int n = 1; n <= 40; n++) {
            int most = (n - 1) / 2;
            Boxes x = Boxes.of("1".repeat(most));
            DUE.is(most + " of " + n, x.ring(0, n), most);
            x.set(n - 1, true);
            DUE.is(most + 1 + " of " + n, x.ring(0, n), NOT);
            DUE.is("the ring stays", x.count(2), most);
            DUE.is("all of " + n, Boxes.of("1".repeat(n)).ring(0, n), NOT);
        }
    }

    private static void ringBadAheadOfNot() {
        DUE.by("promise 13", "the first that fits: BAD -2 .., NOT -3");
        Boxes full = Boxes.of("1".repeat(240));
        int[][] bad = {{0, 0}, {0, 41}, {201, 40}, {239, 2}, {-1, 2}, {240, 1}};
        for (int[] a : bad) DUE.is("ring(" + a[0] + ", " + a[1] + ")", full.ring(a[0], a[1]), BAD);
        int[][] not = {{0, 1}, {0, 40}, {200, 40}, {239, 1}};
        for (int[] a : not) DUE.is("ring(" + a[0] + ", " + a[1] + ")", full.ring(a[0], a[1]), NOT);
        DUE.is("the ring", full.ringText(), "0");
    }

    private static void ringIsThoseBoxes() {
        DUE.by("promise 13", "The RING has n BOXES, those of THE ROW from a BOX on: BALLS in it");
        Boxes x = Boxes.of("1" + "0".repeat(238) + "1");
        DUE.is("ring(0, 40)", x.ring(0, 40), 1);
        DUE.is("the ring", x.ringText(), "1" + "0".repeat(39));
        DUE.is("ring(200, 40)", x.ring(200, 40), 1);
        DUE.is("the ring", x.ringText(), "0".repeat(39) + "1");
        DUE.is("ring(1, 40)", x.ring(1, 40), 0);
        DUE.is("the ring", x.ringText(), "0".repeat(40));
        DUE.is("ring(199, 40)", x.ring(199, 40), 0);
        x.ring(200, 40);
        x.empty();
        DUE.is("the ring behind empty()", x.ringText(), "0".repeat(39) + "1");
        x.turn(1);
        DUE.is("the row behind turn(1)", x.row(0), 0);
    }

    // ---- promise 14

    private static void ringAtFirstAndLast() {
        DUE.by("promise 14", "Whether a BOX of the RING has a BALL: 1, 0");
        Boxes x = ringOf("1" + "0".repeat(38) + "1");
        int[][] boxAndBall = {{0, 1}, {1, 0}, {38, 0}, {39, 1}};
        for (int[] a : boxAndBall) DUE.is("ringAt(" + a[0] + ")", x.ringAt(a[0]), a[1]);
    }

    private static void ringAtBeyond() {
        DUE.by("promise 14", "BAD");
        Boxes x = ringOf("1" + "0".repeat(38) + "1");
        for (int box : new int[] {MIN, -1, 40, 63, 64, 240, MAX}) DUE.is("ringAt(" + box + ") of 40", x.ringAt(box), BAD);
        x.ring(0, 3);
        for (int box : new int[] {-1, 3, 39}) DUE.is("ringAt(" + box + ") of 3", x.ringAt(box), BAD);
        DUE.is("ringAt(2) of 3", x.ringAt(2), 0);
        x.ring(0, 2);
        DUE.is("ringAt(2) behind a refused ring", x.ringAt(2), 0);
    }

    // ---- promise 15

    private static void turnRooms() {
        DUE.by("promise 15", "a ROOM r (1 to 50)");
        Boxes x = ringOf("100");
        for (int r : NO_ROOMS) DUE.is("turn(" + r + ")", x.turn(r), BAD);
        DUE.is("the ring", x.ringText(), "100");
        DUE.is("turn(1)", x.turn(1), 0);
        DUE.is("turn(50)", x.turn(50), 0);
        DUE.is("the ring", x.ringText(), "001");
        DUE.is("turn(50) over the end", x.turn(50), 1);
        DUE.is("the ring", x.ringText(), "100");
    }

    private static void turnTwice() {
        DUE.by("promise 15", "a CARRIER goes round twice from BOX 0 on, empty at first");
        isTurn("11000", 1, 0, "01100");
        isTurn("11000", 2, 0, "00110");
        isTurn("11000", 50, 0, "00110");
        isTurn("1".repeat(19) + "0".repeat(21), 50, 0, "0".repeat(19) + "1".repeat(19) + "00");
    }

    private static void turnOverTheEnd() {
        DUE.by("promise 15", "what it has behind it is what it begins the second with");
        isTurn("001", 1, 1, "100");
        isTurn("00011", 1, 1, "10001");
        isTurn("00011", 2, 2, "11000");
        isTurn("00110", 2, 1, "10001");
        isTurn("0".repeat(21) + "1".repeat(19), 50, 19, "1".repeat(19) + "0".repeat(21));
        isTurn("0".repeat(21) + "1".repeat(19), 1, 1, "1" + "0".repeat(21) + "1".repeat(18));
    }

    private static void turnFirstRoundChangesNothing() {
        DUE.by("promise 15", "in the first round nothing is changed");
        // behind the first round it has the ball of box 4; the second one takes that of box 0 as well, by 2
        isTurn("10001", 2, 1, "01100");
        isTurn("10001", 1, 1, "11000");
    }

    private static void turnFewerThanRoom() {
        DUE.by("promise 15", "it takes that, if it has fewer than r");
        isTurn("1110000", 2, 0, "0011100");
        isTurn("1110000", 3, 0, "0001110");
        isTurn("0000111", 2, 2, "1100001");
        isTurn("0000111", 3, 3, "1110000");
        isTurn("1000011", 2, 2, "1110000");
        isTurn("1000011", 3, 2, "0111000");
    }

    private static void turnOfNone() {
        DUE.by("promise 15", "with how many BALLS the CARRIER began the second round");
        isTurn("0", 1, 0, "0");
        isTurn("00", 50, 0, "00");
        isTurn("0".repeat(40), 50, 0, "0".repeat(40));
        Boxes x = ringOf("001");
        x.turn(1);
        DUE.is("no STEP: count(4)", x.count(4), 0);
    }

    // ---- promise 16

    private static void periodRooms() {
        DUE.by("promise 16", "a ROOM r (1 to 50)");
        Boxes x = ringOf("11000");
        for (int r : NO_ROOMS) DUE.is("period(" + r + ")", x.period(r), BAD);
        DUE.is("period(1)", x.period(1), 5);
        DUE.is("period(50)", x.period(50), 5);
    }

    private static void periodOneOrMore() {
        DUE.by("promise 16", "the fewest TURNS (1 or more)");
        for (int n : new int[] {1, 2, 40}) {
            DUE.is("period(1) of " + n + " empty ones", ringOf("0".repeat(n)).period(1), 1);
            DUE.is("period(50) of " + n + " empty ones", ringOf("0".repeat(n)).period(50), 1);
        }
    }

    private static void periodFewest() {
        DUE.by("promise 16", "behind which it is as it was");
        DUE.is("one ball of 3", ringOf("001").period(1), 3);
        DUE.is("one ball of 40", ringOf("1" + "0".repeat(39)).period(50), 40);
        DUE.is("like thirds", ringOf("100100100").period(1), 3);
        DUE.is("two side by side by 2, of 40", ringOf("11" + "0".repeat(38)).period(2), 20);
        DUE.is("19 side by side by 50, of 40", ringOf("1".repeat(19) + "0".repeat(21)).period(50), 40);
    }

    private static void periodRingStays() {
        DUE.by("promise 16", "(the RING stays)");
        String ring = "0110100000";
        Boxes x = ringOf(ring);
        DUE.holds("period(2) more than 1", x.period(2) > 1);
        DUE.is("the ring", x.ringText(), ring);
        DUE.is("period(2) twice", x.period(2), x.period(2));
    }

    /**
     * No ring of up to 40 boxes has a period between 19800 and 20007: so it came out when the periods of
     * all sizes of heaps were worked out by their equations (which told, up to 12 boxes, just the periods
     * that the rings have). So these two are the nearest to 20000 that any test can have.
     */
    private static void periodSpent() {
        DUE.by("promise 16", "up to 20000; SPENT");
        DUE.is("19800", ringOf("1110000000100011000000110001111100000000").period(5), 19800);
        String beyond = "111100000000011111000000000011000000000";
        Boxes x = ringOf(beyond);
        DUE.is("20007", x.period(5), SPENT);
        DUE.is("the ring", x.ringText(), beyond);
        DUE.is("by 1 it is 39", x.period(1), 39);
        DUE.is("BAD ahead of SPENT", x.period(51), BAD);
    }

    // ---- promise 17

    private static void ringsSoMany() {
        DUE.by("promise 17", "ALL RINGS of N (1 to 12) BOXES");
        Boxes x = new Boxes();
        int[][] boxesAndDue = {{MIN, BAD}, {-1, BAD}, {0, BAD}, {1, 1}, {12, 1}, {13, BAD}, {40, BAD}, {MAX, BAD}};
        for (int[] a : boxesAndDue) {
            DUE.is("rings(" + a[0] + ", 0, 1, 0)", x.rings(a[0], 0, 1, 0), a[1]);
            DUE.is("rings(" + a[0] + ", 0, 1, 1)", x.rings(a[0], 0, 1, 1), a[1]);
        }
    }

    private static void ringsBalls() {
        DUE.by("promise 17", "BAD: also m not fewer than n by 2");
        Boxes x = new Boxes();
        for (int n = 1; n <= 12; n++) {
            int most = (n - 1) / 2;
            DUE.holds(most + " of " + n, x.rings(n, most, 1, 0) > 0);
            for (int m : new int[] {most + 1, n, n + 1, -1, MIN, MAX, 1 << 30, 1 << 31}) {
                DUE.is("rings(" + n + ", " + m + ", 1, 0)", x.rings(n, m, 1, 0), BAD);
            }
        }
    }

    private static void ringsRooms() {
        DUE.by("promise 17", "a ROOM r (1 to 50)");
        Boxes x = new Boxes();
        for (int r : NO_ROOMS) {
            DUE.is("rings(5, 2, " + r + ", 0)", x.rings(5, 2, r, 0), BAD);
            DUE.is("rings(5, 2, " + r + ", 5)", x.rings(5, 2, r, 5), BAD);
        }
        DUE.is("rings(5, 2, 1, 5)", x.rings(5, 2, 1, 5), 10);
        DUE.is("rings(5, 2, 50, 5)", x.rings(5, 2, 50, 5), 10);
    }

    private static void ringsPeriodBelowZero() {
        DUE.by("promise 17", "BAD: .. p below 0");
        Boxes x = new Boxes();
        for (int p : new int[] {-1, MIN}) DUE.is("rings(5, 2, 1, " + p + ")", x.rings(5, 2, 1, p), BAD);
        for (int p : new int[] {20000, 20001, MAX}) DUE.is("rings(5, 2, 1, " + p + ")", x.rings(5, 2, 1, p), 0);
    }

    private static void ringsPeriodZero() {
        DUE.by("promise 17", "(0: how many there are)");
        Boxes x = new Boxes();
        for (int n = 1; n <= 12; n++) {
            int all = 1;
            for (int m = 0; 2 * m < n; m++) {
                DUE.is("rings(" + n + ", " + m + ", 1, 0)", x.rings(n, m, 1, 0), all);
                DUE.is("rings(" + n + ", " + m + ", 50, 0)", x.rings(n, m, 50, 0), all);
                all = all * (n - m) / (m + 1);
            }
        }
    }

    private static void ringsJustThePeriod() {
        DUE.by("promise 17", "a PERIOD of just p");
        Boxes x = new Boxes();
        int[][] periodAndDue = {{1, 0}, {2, 0}, {3, 3}, {4, 0}, {6, 0}};
        for (int[] a : periodAndDue) DUE.is("rings(3, 1, 1, " + a[0] + ")", x.rings(3, 1, 1, a[0]), a[1]);
        DUE.is("rings(3, 0, 1, 1)", x.rings(3, 0, 1, 1), 1);
        DUE.is("rings(3, 0, 1, 2)", x.rings(3, 0, 1, 2), 0);
        DUE.is("rings(8, 2, 1, 4)", x.rings(8, 2, 1, 4), 4);
        DUE.is("rings(8, 2, 1, 8)", x.rings(8, 2, 1, 8), 24);
    }

    private static void ringsChangeNothing() {
        DUE.by("promise 17", "How many of ALL RINGS");
        Boxes x = ringOf("01001");
        long before = x.digest();
        x.rings(12, 5, 3, 0);
        x.rings(12, 5, 3, 7);
        x.rings(12, 5, 3, -1);
        DUE.is("digest()", x.digest(), before);
        DUE.is("the ring", x.ringText(), "01001");
    }

    private static void ringsOfEachPeriod() {
        DUE.by("promise 17", "how many of these have, by r, a PERIOD of just p");
        for (int n = 1; n <= 12; n++) {
            for (int m = 0; 2 * m < n; m++) {
                for (int r : new int[] {1, 2, 3, 4, 5, 50}) isEachPeriod(n, m, r);
            }
        }
    }

    private static void isEachPeriod(int n, int m, int r) {
        int[] with = Model.periods(n, m, r);
        Boxes x = new Boxes();
        for (int p = 1; p < with.length; p++) {
            if (with[p] != 0 || p <= 12) DUE.is("rings(" + n + ", " + m + ", " + r + ", " + p + ")", x.rings(n, m, r, p), with[p]);
        }
    }
}
