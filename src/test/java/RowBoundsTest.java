/** Promises 1 to 9: for each sentence that names a boundary case, a test of its own. */
public final class RowBoundsTest {
    private static final Due DUE = new Due("RowBoundsTest");
    private static final int MIN = Integer.MIN_VALUE, MAX = Integer.MAX_VALUE;
    private static final int BAD = -2, FULL = -4;
    private static final int[] NO_BOXES = {MIN, -1, 240, MAX};
    private static final int[] NO_ROOMS = {MIN, -1, 0, 51, MAX};

    public static void main(String[] args) {
        noBalls();
        firstRing();
        allSheetsLost();
        nothingBefore();
        setFirstAndLast();
        setBeyond();
        setAlready();
        atFirstAndLast();
        atBeyond();
        emptyHad();
        stepRooms();
        stepFewerThanRoom();
        stepLeavesIfAny();
        stepFromFirstToLast();
        stepFull();
        stepOthers();
        backRooms();
        backFewerThanRoom();
        backFromLastToFirst();
        backFull();
        keptRooms();
        keptRowStays();
        keptWhereRefused();
        rowNone();
        rowFirstAndLast();
        rowOther();
        heapOfNone();
        heapEmptyOnesBehind();
        heapCountsAbove();
        heapThatThereIsNot();
        DUE.end();
    }

    // ---- promise 1

    private static void noBalls() {
        DUE.by("promise 1", "No BALLS");
        Boxes x = new Boxes();
        DUE.is("the row", x.rowText(), Boxes.rowWith(0, ""));
        DUE.is("row(0)", x.row(0), 0);
        DUE.is("row(1)", x.row(1), -1);
        DUE.is("row(2)", x.row(2), -1);
        DUE.is("row(3)", x.row(3), 0);
        DUE.is("heap(0)", x.heap(0), BAD);
        DUE.is("kept(50)", x.kept(50), 0);
        DUE.is("step(50)", x.step(50), 0);
        DUE.is("back(50)", x.back(50), 0);
        DUE.is("strings(240)", x.strings(240), 0);
        DUE.is("leap(50, 1000)", x.leap(50, 1000), 0);
        DUE.is("leap(50, -1000)", x.leap(50, -1000), 0);
        DUE.is("empty()", x.empty(), 0);
    }

    private static void firstRing() {
        DUE.by("promise 1", "a RING of one BOX without a BALL");
        Boxes x = new Boxes();
        DUE.is("count(1)", x.count(1), 1);
        DUE.is("count(2)", x.count(2), 0);
        DUE.is("ringAt(-1)", x.ringAt(-1), BAD);
        DUE.is("ringAt(0)", x.ringAt(0), 0);
        DUE.is("ringAt(1)", x.ringAt(1), BAD);
        DUE.is("period(1)", x.period(1), 1);
        DUE.is("turn(1)", x.turn(1), 0);
        DUE.is("turn(50)", x.turn(50), 0);
        DUE.is("the ring then", x.ringText(), "0");
    }

    private static void allSheetsLost() {
        DUE.by("promise 1", "all SHEETS are LOST");
        for (int s = 0; s < 4; s++) {
            Boxes x = new Boxes();
            DUE.is("lose(" + s + ")", x.lose(s), -11);
            for (int form = 0; form < 3; form++) {
                DUE.is("put(" + s + ", " + form + ", 0, 1)", x.put(s, form, 0, 1), -11);
                DUE.is("get(" + s + ", " + form + ", 0)", x.get(s, form, 0), MIN);
            }
            DUE.is("copy within " + s, x.copy(s, 0, s, 0, 0), -11);
            DUE.is("load(" + s + ", 0)", x.load(s, 0), -11);
            DUE.is("write(" + s + ", 0)", x.write(s, 0), -11);
            DUE.is("count(5)", x.count(5), 1);
        }
    }

    private static void nothingBefore() {
        DUE.by("promise 1", "A new object");
        Boxes x = new Boxes();
        DUE.is("count(0)", x.count(0), 0);
        DUE.is("count(3)", x.count(3), 0);
        DUE.is("count(4)", x.count(4), 0);
        DUE.is("count(5)", x.count(5), 0);
        Boxes used = Boxes.of("1110010");
        used.ring(0, 9);
        used.strings(240);
        used.step(1);
        used.sheet(0, 0, 1);
        used.lose(1);
        DUE.is("digest() behind another object's calls", x.digest(), new Boxes().digest());
        DUE.is("lose(0) behind another object's sheet", x.lose(0), -11);
    }

    // ---- promises 2 to 4

    private static void setFirstAndLast() {
        DUE.by("promise 2", "THE ROW has BOXES 0 .. 239");
        for (int box : new int[] {0, 1, 238, 239}) {
            Boxes x = new Boxes();
            DUE.is("set(" + box + ", true)", x.set(box, true), 1);
            DUE.is("the row", x.rowText(), Boxes.rowWith(box, "1"));
            DUE.is("set(" + box + ", false)", x.set(box, false), 1);
            DUE.is("row(0)", x.row(0), 0);
        }
    }

    private static void setBeyond() {
        DUE.by("promise 2", "BAD");
        Boxes x = new Boxes();
        for (int box : NO_BOXES) {
            DUE.is("set(" + box + ", true)", x.set(box, true), BAD);
            DUE.is("set(" + box + ", false)", x.set(box, false), BAD);
        }
        DUE.is("the row", x.rowText(), Boxes.rowWith(0, ""));
    }

    private static void setAlready() {
        DUE.by("promise 2", "0: it is so already");
        for (int box : new int[] {0, 239}) {
            Boxes x = new Boxes();
            DUE.is("set(" + box + ", false) of a new object", x.set(box, false), 0);
            x.set(box, true);
            DUE.is("set(" + box + ", true) again", x.set(box, true), 0);
            DUE.is("the row", x.rowText(), Boxes.rowWith(box, "1"));
            x.set(box, false);
            DUE.is("set(" + box + ", false) again", x.set(box, false), 0);
            DUE.is("at(" + box + ")", x.at(box), 0);
        }
    }

    private static void atFirstAndLast() {
        DUE.by("promise 3", "Whether a BOX has one: 1, 0");
        Boxes x = Boxes.of("1" + "0".repeat(238) + "1");
        int[][] boxAndBall = {{0, 1}, {1, 0}, {238, 0}, {239, 1}};
        for (int[] a : boxAndBall) DUE.is("at(" + a[0] + ")", x.at(a[0]), a[1]);
    }

    private static void atBeyond() {
        DUE.by("promise 3", "BAD");
        Boxes x = Boxes.of("1" + "0".repeat(238) + "1");
        for (int box : NO_BOXES) DUE.is("at(" + box + ")", x.at(box), BAD);
    }

    private static void emptyHad() {
        DUE.by("promise 4", "THE ROW has no BALLS: how many it had");
        Boxes ends = Boxes.of("1" + "0".repeat(238) + "1");
        DUE.is("empty() of the first and the last", ends.empty(), 2);
        DUE.is("the row", ends.rowText(), Boxes.rowWith(0, ""));
        DUE.is("empty() again", ends.empty(), 0);
        Boxes full = Boxes.of("1".repeat(240));
        DUE.is("empty() of all", full.empty(), 240);
        DUE.is("the row of all", full.rowText(), Boxes.rowWith(0, ""));
    }

    // ---- promise 5

    private static void stepRooms() {
        DUE.by("promise 5", "a ROOM r (1 to 50)");
        Boxes x = Boxes.of("1");
        for (int r : NO_ROOMS) DUE.is("step(" + r + ")", x.step(r), BAD);
        DUE.is("row(1)", x.row(1), 0);
        DUE.is("step(1)", x.step(1), 2);
        DUE.is("step(50)", x.step(50), 2);
        DUE.is("row(1)", x.row(1), 2);
    }

    private static void stepFewerThanRoom() {
        DUE.by("promise 5", "it takes that, if it has fewer than r");
        int[][] roomBallsFirst = {{1, 1, 1}, {1, 2, 1}, {2, 2, 2}, {2, 3, 2}, {49, 50, 49}, {50, 50, 50}, {50, 51, 50}};
        for (int[] a : roomBallsFirst) {
            String balls = "1".repeat(a[1]);
            Boxes x = Boxes.of(balls);
            DUE.is("step(" + a[0] + ") of " + a[1], x.step(a[0]), 2 * a[2]);
            DUE.is("the row", x.rowText(), Boxes.rowWith(a[2], balls));
        }
    }

    private static void stepLeavesIfAny() {
        DUE.by("promise 5", "at one without it leaves one, if it has any");
        Boxes x = Boxes.of("0010100");
        DUE.is("step(1)", x.step(1), 4);
        DUE.is("the row", x.rowText(), Boxes.rowWith(0, "0001010"));
    }

    private static void stepFromFirstToLast() {
        DUE.by("promise 5", "goes along from BOX 0 to BOX 239, empty at first");
        Boxes first = Boxes.of("1");
        DUE.is("step(1) of box 0", first.step(1), 2);
        DUE.is("the row", first.rowText(), Boxes.rowWith(1, "1"));
        Boxes last = Boxes.atTheEnd("10");
        DUE.is("step(1) of box 238", last.step(1), 2);
        DUE.is("the row", last.rowText(), Boxes.rowWith(239, "1"));
    }

    private static void stepFull() {
        DUE.by("promise 5", "refused (FULL), if the CARRIER is not empty behind BOX 239");
        DUE.is("box 239 by 1", Boxes.atTheEnd("1").step(1), FULL);
        DUE.is("box 239 by 50", Boxes.atTheEnd("1").step(50), FULL);
        DUE.is("boxes 237, 238 by 2", Boxes.atTheEnd("110").step(2), FULL);
        DUE.is("boxes 237, 238 by 1", Boxes.atTheEnd("110").step(1), 2);
        DUE.is("boxes 236, 237 by 2", Boxes.atTheEnd("1100").step(2), 4);
        DUE.is("50 at 140 by 50", Boxes.of(140, "1".repeat(50)).step(50), 100);
        DUE.is("50 at 141 by 50", Boxes.of(141, "1".repeat(50)).step(50), FULL);
        DUE.is("50 at 141 by 49", Boxes.of(141, "1".repeat(50)).step(49), 98);
        DUE.is("all but box 239 by 1", Boxes.of("1".repeat(239)).step(1), 2);
        DUE.is("all by 1", Boxes.of("1".repeat(240)).step(1), FULL);
        Boxes x = Boxes.of("1" + "0".repeat(238) + "1");
        DUE.is("boxes 0, 239", x.step(1), FULL);
        DUE.is("the row", x.rowText(), "1" + "0".repeat(238) + "1");
    }

    private static void stepOthers() {
        DUE.by("promise 5", "how many BOXES have become other ones");
        DUE.is("of no balls", new Boxes().step(1), 0);
        DUE.is("every other, by 50", Boxes.of("10".repeat(120)).step(50), 240);
        DUE.is("one that stays between", Boxes.of("111").step(2), 4);
    }

    // ---- promise 6

    private static void backRooms() {
        DUE.by("promise 6", "a ROOM r (1 to 50)");
        Boxes x = Boxes.of("001");
        for (int r : NO_ROOMS) DUE.is("back(" + r + ")", x.back(r), BAD);
        DUE.is("row(1)", x.row(1), 2);
        DUE.is("back(1)", x.back(1), 2);
        DUE.is("back(50)", x.back(50), 2);
        DUE.is("row(1)", x.row(1), 0);
    }

    private static void backFewerThanRoom() {
        DUE.by("promise 6", "it takes that, if it has fewer than r");
        int[][] roomBallsFirst = {{1, 1, 1}, {1, 2, 1}, {2, 3, 2}, {50, 50, 50}, {50, 51, 50}};
        for (int[] a : roomBallsFirst) {
            String balls = "1".repeat(a[1]);
            Boxes x = Boxes.of(100, balls);
            DUE.is("back(" + a[0] + ") of " + a[1], x.back(a[0]), 2 * a[2]);
            DUE.is("the row", x.rowText(), Boxes.rowWith(100 - a[2], balls));
        }
    }

    private static void backFromLastToFirst() {
        DUE.by("promise 6", "the same from BOX 239 to BOX 0");
        Boxes last = Boxes.atTheEnd("1");
        DUE.is("back(1) of box 239", last.back(1), 2);
        DUE.is("the row", last.rowText(), Boxes.rowWith(238, "1"));
        Boxes first = Boxes.of("01");
        DUE.is("back(1) of box 1", first.back(1), 2);
        DUE.is("the row", first.rowText(), Boxes.rowWith(0, "1"));
        DUE.is("of no balls", new Boxes().back(1), 0);
    }

    private static void backFull() {
        DUE.by("promise 6", "refused, if it is not empty behind BOX 0");
        DUE.is("box 0 by 1", Boxes.of("1").back(1), FULL);
        DUE.is("box 0 by 50", Boxes.of("1").back(50), FULL);
        DUE.is("boxes 1, 2 by 2", Boxes.of("011").back(2), FULL);
        DUE.is("boxes 1, 2 by 1", Boxes.of("011").back(1), 2);
        DUE.is("boxes 2, 3 by 2", Boxes.of("0011").back(2), 4);
        DUE.is("50 at 50 by 50", Boxes.of(50, "1".repeat(50)).back(50), 100);
        DUE.is("50 at 49 by 50", Boxes.of(49, "1".repeat(50)).back(50), FULL);
        DUE.is("50 at 49 by 49", Boxes.of(49, "1".repeat(50)).back(49), 98);
        DUE.is("all but box 0 by 1", Boxes.of(1, "1".repeat(239)).back(1), 2);
        DUE.is("all by 1", Boxes.of("1".repeat(240)).back(1), FULL);
        Boxes x = Boxes.of("1" + "0".repeat(238) + "1");
        DUE.is("boxes 0, 239", x.back(1), FULL);
        DUE.is("the row", x.rowText(), "1" + "0".repeat(238) + "1");
    }

    // ---- promise 7

    private static void keptRooms() {
        DUE.by("promise 7", "a ROOM r (1 to 50)");
        Boxes x = Boxes.of("1".repeat(51));
        for (int r : NO_ROOMS) DUE.is("kept(" + r + ")", x.kept(r), BAD);
        DUE.is("kept(1)", x.kept(1), 1);
        DUE.is("kept(49)", x.kept(49), 49);
        DUE.is("kept(50)", x.kept(50), 50);
    }

    private static void keptRowStays() {
        DUE.by("promise 7", "THE ROW stays");
        Boxes x = Boxes.of("1101");
        DUE.is("kept(1)", x.kept(1), 2);
        DUE.is("kept(2)", x.kept(2), 3);
        DUE.is("the row", x.rowText(), Boxes.rowWith(0, "1101"));
        DUE.is("count(4)", x.count(4), 0);
    }

    private static void keptWhereRefused() {
        DUE.by("promise 7", "also where the STEP would be refused: to BOX 239");
        Boxes last = Boxes.atTheEnd("1");
        DUE.is("step(1) of box 239", last.step(1), FULL);
        DUE.is("kept(1) of box 239", last.kept(1), 1);
        Boxes two = Boxes.atTheEnd("101");
        DUE.is("step(1) of boxes 237, 239", two.step(1), FULL);
        DUE.is("kept(1) of boxes 237, 239", two.kept(1), 2);
        Boxes full = Boxes.of("1".repeat(240));
        DUE.is("kept(1) of all", full.kept(1), 1);
        DUE.is("kept(50) of all", full.kept(50), 50);
        DUE.is("row(0) of all", full.row(0), 240);
    }

    // ---- promise 8

    private static void rowNone() {
        DUE.by("promise 8", "1 the first BOX with one, 2 the last one (NONE)");
        Boxes x = Boxes.of("1");
        x.empty();
        DUE.is("row(0)", x.row(0), 0);
        DUE.is("row(1)", x.row(1), -1);
        DUE.is("row(2)", x.row(2), -1);
        DUE.is("row(3)", x.row(3), 0);
    }

    private static void rowFirstAndLast() {
        DUE.by("promise 8", "0 BALLS, 1 the first BOX with one, 2 the last one, 3 HEAPS");
        Boxes[] rows = {Boxes.of("1"), Boxes.atTheEnd("1"), Boxes.of("1" + "0".repeat(238) + "1"), Boxes.of("1".repeat(240))};
        int[][] due = {{1, 0, 0, 1}, {1, 239, 239, 1}, {2, 0, 239, 2}, {240, 0, 239, 1}};
        for (int k = 0; k < rows.length; k++) {
            for (int what = 0; what < 4; what++) DUE.is("row(" + what + ") of " + k, rows[k].row(what), due[k][what]);
        }
    }

    private static void rowOther() {
        DUE.by("promise 8", "BAD");
        for (int what : new int[] {MIN, -1, 4, MAX}) DUE.is("row(" + what + ")", Boxes.of("1").row(what), BAD);
    }

    // ---- promise 9

    private static void heapOfNone() {
        DUE.by("promise 9", "till no BALL is left");
        for (int i : new int[] {MIN, -1, 0, 1, MAX}) DUE.is("heap(" + i + ") of no balls", new Boxes().heap(i), BAD);
    }

    private static void isHeaps(String what, Boxes x, int... sizes) {
        DUE.is(what + ": row(3)", x.row(3), sizes.length);
        for (int i = 0; i < sizes.length; i++) DUE.is(what + ": heap(" + i + ")", x.heap(i), sizes[i]);
        DUE.is(what + ": one too many", x.heap(sizes.length), BAD);
    }

    private static void heapEmptyOnesBehind() {
        DUE.by("promise 9", "behind the last one as many empty ones as needed");
        isHeaps("box 239", Boxes.atTheEnd("1"), 1);
        isHeaps("three at the end", Boxes.atTheEnd("111"), 3);
        isHeaps("two at the end, one ahead", Boxes.atTheEnd("1011"), 2, 1);
        isHeaps("four, two of them ahead", Boxes.atTheEnd("11011"), 3, 1);
        isHeaps("all", Boxes.of("1".repeat(240)), 240);
        isHeaps("all but box 120", Boxes.of("1".repeat(120) + "0" + "1".repeat(119)), 238, 1);
    }

    private static void heapCountsAbove() {
        DUE.by("promise 9", "as many BALLS as there are counts above i");
        isHeaps("counts 2, 1, 1", Boxes.of("1110010"), 3, 1);
        isHeaps("counts 3, 3", Boxes.of("110011001100"), 2, 2, 2);
        isHeaps("counts 1, 1, 1, 1", Boxes.of("1111"), 4);
        isHeaps("counts 2, 2", Boxes.of("1100110"), 2, 2);
    }

    private static void heapThatThereIsNot() {
        DUE.by("promise 9", "BAD");
        Boxes x = Boxes.of("10".repeat(120));
        for (int i : new int[] {MIN, -1, 120, 239, 240, MAX}) DUE.is("heap(" + i + ")", x.heap(i), BAD);
        DUE.is("heap(0)", x.heap(0), 1);
        DUE.is("heap(119)", x.heap(119), 1);
    }
}
