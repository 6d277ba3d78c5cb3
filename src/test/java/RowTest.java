/** Promises 1 to 9: a new object, and the row. */
public final class RowTest {
    private static final Due DUE = new Due("RowTest");
    private static final int MIN = Integer.MIN_VALUE, MAX = Integer.MAX_VALUE;

    public static void main(String[] args) {
        newObject();
        setAndAt();
        empty();
        step();
        stepByRooms();
        stepToTheEnd();
        back();
        backToTheStart();
        kept();
        rowWhat();
        heaps();
        heapsOfFullRows();
        heapsStay();
        DUE.end();
    }

    private static void isRow(String when, Boxes x, int from, String boxes) {
        for (int k = 0; k < 240; k++) {
            boolean ball = k >= from && k < from + boxes.length() && boxes.charAt(k - from) == '1';
            DUE.is(when + ": at(" + k + ")", x.at(k), ball ? 1 : 0);
        }
    }

    private static void newObject() {
        Boxes x = new Boxes();
        isRow("new", x, 0, "");
        DUE.is("new: ringAt(0)", x.ringAt(0), 0);
        DUE.is("new: ringAt(1)", x.ringAt(1), BallBoxes.BAD);
        int[] counts = {0, 1, 0, 0, 0, 0};
        for (int what = 0; what < counts.length; what++) DUE.is("new: count(" + what + ")", x.count(what), counts[what]);
        for (int s = 0; s < 4; s++) DUE.is("new: lose(" + s + ")", x.lose(s), -11);
        DUE.is("new: string(0, 0)", x.string(0, 0), -1000);
        Boxes other = Boxes.of("1");
        DUE.is("another object: at(0)", x.at(0), 0);
        DUE.is("this object: at(0)", other.at(0), 1);
    }

    private static void setAndAt() {
        Boxes x = new Boxes();
        for (int box : new int[] {0, 1, 119, 238, 239}) {
            DUE.is("set false on none", x.set(box, false), 0);
            DUE.is("set true", x.set(box, true), 1);
            DUE.is("set true again", x.set(box, true), 0);
            DUE.is("at", x.at(box), 1);
        }
        DUE.is("row(0)", x.row(0), 5);
        DUE.is("set false", x.set(239, false), 1);
        DUE.is("set false again", x.set(239, false), 0);
        DUE.is("at then", x.at(239), 0);
        for (int box : new int[] {-1, 240, MIN, MAX}) {
            DUE.is("set(" + box + ", true)", x.set(box, true), -2);
            DUE.is("set(" + box + ", false)", x.set(box, false), -2);
            DUE.is("at(" + box + ")", x.at(box), -2);
        }
        DUE.is("row(0) behind refusals", x.row(0), 4);
        DUE.is("set counts as no move", x.count(4), 0);
    }

    private static void empty() {
        Boxes x = Boxes.of("1".repeat(240));
        DUE.is("empty() of all", x.empty(), 240);
        isRow("emptied", x, 0, "");
        DUE.is("empty() again", x.empty(), 0);
        x.set(7, true);
        DUE.is("empty() of one", x.empty(), 1);
        DUE.is("empty counts as no move", x.count(4), 0);
    }

    private static void step() {
        Boxes x = Boxes.of("1110010");
        DUE.is("step(3)", x.step(3), 8);
        isRow("step(3)", x, 3, "11011");
        DUE.is("count(4)", x.count(4), 1);
        Boxes none = new Boxes();
        DUE.is("step of no balls", none.step(1), 0);
        DUE.is("it is done all the same", none.count(4), 1);
        for (int r : new int[] {0, -1, 51, MIN, MAX}) DUE.is("step(" + r + ")", none.step(r), -2);
        DUE.is("refusals are not done", none.count(4), 1);
    }

    private static void stepByRooms() {
        int[][] roomAndBoxes = {{1, 1}, {2, 2}, {3, 3}, {4, 4}, {50, 4}};
        for (int[] a : roomAndBoxes) {
            Boxes x = Boxes.of("11110");
            DUE.is("step(" + a[0] + ")", x.step(a[0]), 2 * a[1]);
            isRow("step(" + a[0] + ")", x, a[1], "1111");
        }
        Boxes far = Boxes.of("1".repeat(60));
        DUE.is("step(50) of 60", far.step(50), 100);
        isRow("step(50) of 60", far, 50, "1".repeat(60));
        Boxes gap = Boxes.of("1011");
        DUE.is("step(1) with a gap", gap.step(1), 4);
        isRow("step(1) with a gap", gap, 1, "1011");
    }

    private static void stepToTheEnd() {
        Boxes x = new Boxes();
        x.set(238, true);
        DUE.is("step(1) into box 239", x.step(1), 2);
        DUE.is("at(239)", x.at(239), 1);
        DUE.is("step(1) beyond it", x.step(1), -4);
        DUE.is("refused: at(239)", x.at(239), 1);
        DUE.is("refused: count(4)", x.count(4), 1);
        DUE.is("BAD ahead of FULL", x.step(0), -2);
        x.set(0, true);
        DUE.is("refused: nothing is shifted", x.step(1), -4);
        DUE.is("at(0)", x.at(0), 1);
        DUE.is("at(1)", x.at(1), 0);
    }

    private static void back() {
        Boxes x = new Boxes();
        for (int box : new int[] {3, 4, 6, 7}) x.set(box, true);
        DUE.is("back(3)", x.back(3), 8);
        // 7, 6 taken; left at 5; 4, 3 taken, as there is room for 3; left at 2, 1, 0
        isRow("back(3)", x, 0, "111001");
        DUE.is("count(4)", x.count(4), 1);
        for (int r : new int[] {0, -1, 51, MIN, MAX}) DUE.is("back(" + r + ")", x.back(r), -2);
        Boxes undone = Boxes.of("00110101110001");
        DUE.holds("step(2)", undone.step(2) > 0);
        undone.back(2);
        isRow("a step and back", undone, 0, "00110101110001");
    }

    private static void backToTheStart() {
        Boxes x = new Boxes();
        x.set(1, true);
        DUE.is("back(1) into box 0", x.back(1), 2);
        DUE.is("at(0)", x.at(0), 1);
        DUE.is("back(1) beyond it", x.back(1), -4);
        DUE.is("refused: at(0)", x.at(0), 1);
        DUE.is("refused: count(4)", x.count(4), 1);
        x.set(239, true);
        DUE.is("refused whole", x.back(50), -4);
        DUE.is("at(239)", x.at(239), 1);
        x.set(0, false);
        DUE.is("back(1) from box 239", x.back(1), 2);
        DUE.is("at(238)", x.at(238), 1);
    }

    private static void kept() {
        Boxes x = Boxes.of("1110010");
        int[] due = {2, 3, 4, 4};
        for (int r = 1; r <= 4; r++) DUE.is("kept(" + r + ")", x.kept(r), due[r - 1]);
        DUE.is("kept(50)", x.kept(50), 4);
        isRow("kept", x, 0, "1110010");
        DUE.is("kept is no move", x.count(4), 0);
        for (int r : new int[] {0, -1, 51, MIN, MAX}) DUE.is("kept(" + r + ")", x.kept(r), -2);
        Boxes full = Boxes.of("1".repeat(240));
        DUE.is("kept(1) of a full row", full.kept(1), 1);
        DUE.is("kept(50) of a full row", full.kept(50), 50);
        DUE.is("kept(1) of none", new Boxes().kept(1), 0);
        Boxes stays = Boxes.of("1101001110010");
        for (int r = 1; r <= 5; r++) {
            int before = stays.kept(r);
            stays.step(3);
            DUE.is("kept(" + r + ") stays", stays.kept(r), before);
        }
    }

    private static void rowWhat() {
        Boxes x = new Boxes();
        int[] none = {0, -1, -1, 0};
        for (int what = 0; what < 4; what++) DUE.is("row(" + what + ") of none", x.row(what), none[what]);
        x.set(17, true);
        int[] one = {1, 17, 17, 1};
        for (int what = 0; what < 4; what++) DUE.is("row(" + what + ") of one", x.row(what), one[what]);
        DUE.is("row(2) of box 0", Boxes.of("1").row(2), 0);
        x.set(0, true);
        x.set(239, true);
        int[] three = {3, 0, 239, 3};
        for (int what = 0; what < 4; what++) DUE.is("row(" + what + ") of three", x.row(what), three[what]);
        for (int what : new int[] {-1, 4, MIN, MAX}) DUE.is("row(" + what + ")", x.row(what), -2);
    }

    private static void isHeaps(String what, Boxes x, int... sizes) {
        DUE.is(what + ": row(3)", x.row(3), sizes.length);
        for (int i = 0; i < sizes.length; i++) DUE.is(what + ": heap(" + i + ")", x.heap(i), sizes[i]);
        for (int i : new int[] {sizes.length, -1, 240, MIN, MAX}) DUE.is(what + ": heap(" + i + ")", x.heap(i), -2);
    }

    private static void heaps() {
        isHeaps("none", new Boxes());
        isHeaps("one", Boxes.of("001"), 1);
        isHeaps("3 and 1", Boxes.of("1110010"), 3, 1);
        // 11011000: two pairs, then 1100 left: 10 once, then once more
        isHeaps("close ones", Boxes.of("11011000"), 3, 1);
        // 1011: counts 2, 1, since the last pairs with the empty ones behind
        isHeaps("1 and 2", Boxes.of("1011"), 2, 1);
        isHeaps("nested", Boxes.of("1101001"), 2, 1, 1);
        isHeaps("4, 2, 1", Boxes.of("1111001100100"), 4, 2, 1);
    }

    private static void heapsOfFullRows() {
        isHeaps("all balls", Boxes.of("1".repeat(240)), 240);
        isHeaps("every other", Boxes.of("10".repeat(120)), ones(120));
        isHeaps("every other, from box 1", Boxes.of("01".repeat(120)), ones(120));
        Boxes end = Boxes.of("0".repeat(230) + "1110010111");
        // counts 3 (the last ball with an empty box behind box 239), 2, 1, 1
        isHeaps("behind the last one as many as needed", end, 4, 2, 1);
    }

    private static int[] ones(int n) {
        int[] ones = new int[n];
        java.util.Arrays.fill(ones, 1);
        return ones;
    }

    private static void heapsStay() {
        Boxes x = Boxes.of("1111001100100");
        for (int k = 0; k < 30; k++) {
            x.step(1 + k % 7);
            isHeaps("step " + k, x, 4, 2, 1);
        }
        DUE.is("moves", x.count(4), 30);
    }
}
