/** Promises 10 to 12: for each sentence that names a boundary case, a test of its own. */
public final class StringsBoundsTest {
    private static final Due DUE = new Due("StringsBoundsTest");
    private static final int MIN = Integer.MIN_VALUE, MAX = Integer.MAX_VALUE;
    private static final int BAD = -2, FULL = -4, NO_STRING = -1000;

    public static void main(String[] args) {
        stringsOfSoMany();
        stringsOfFirst();
        stringsNoneAtFirst();
        stringsBallOrNone();
        stringsNoneTight();
        stringsGreatestTight();
        stringsOfAll();
        stringBeforeAny();
        stringOther();
        stringOfLatest();
        stringSorted();
        stringRoomLeft();
        leapRooms();
        leapTimes();
        leapNoTimes();
        leapLesserOne();
        leapRoomLeftAlone();
        leapRoomLeftReached();
        leapStringLeft();
        leapFullRow();
        leapAllMade();
        DUE.end();
    }

    /** Due is each string's length, rigging and room left, as Boxes tells them. */
    private static void isStrings(String what, Boxes x, int n, int many, String due) {
        DUE.is(what + ": strings(" + n + ")", x.strings(n), many);
        DUE.is(what + ": strings behind " + n, x.stringsText(), due);
        DUE.is(what + ": count(3)", x.count(3), many);
    }

    // ---- promise 10

    private static void stringsOfSoMany() {
        DUE.by("promise 10", "STRINGS of the first n BOXES (0 to 240)");
        Boxes x = Boxes.of("1" + "0".repeat(238) + "1");
        DUE.is("strings(240)", x.strings(240), 2);
        for (int n : new int[] {MIN, -1, 241, MAX}) DUE.is("strings(" + n + ")", x.strings(n), BAD);
        DUE.is("the latest ones", x.count(3), 2);
        DUE.is("strings(0)", x.strings(0), 0);
        DUE.is("the latest ones", x.count(3), 0);
    }

    private static void stringsOfFirst() {
        DUE.by("promise 10", "of the first n BOXES, as they are read from BOX 0 on");
        Boxes first = Boxes.of("1");
        isStrings("box 0", first, 0, 0, "");
        isStrings("box 0", first, 1, 1, "1 -1 -1; ");
        Boxes last = Boxes.atTheEnd("1");
        isStrings("box 239", last, 239, 0, "");
        isStrings("box 239", last, 240, 1, "1 238 238; ");
    }

    private static void stringsNoneAtFirst() {
        DUE.by("promise 10", "(none at first)");
        isStrings("no balls", new Boxes(), 240, 0, "");
        Boxes x = Boxes.of("111");
        isStrings("once", x, 240, 1, "3 -3 234; ");
        isStrings("none of them is left for the next call", x, 240, 1, "3 -3 234; ");
        x.empty();
        isStrings("emptied", x, 240, 0, "");
    }

    private static void stringsBallOrNone() {
        DUE.by("promise 10", "BOX k (from 0) without a BALL changes no STRING");
        Boxes x = Boxes.of("0011");
        isStrings("two empty ones", x, 2, 0, "");
        isStrings("one ball", x, 3, 1, "1 1 1; ");
        isStrings("two balls", x, 4, 1, "2 0 0; ");
        isStrings("an empty one", x, 5, 1, "2 0 1; ");
        isStrings("all empty ones", x, 240, 1, "2 0 236; ");
    }

    private static void stringsNoneTight() {
        DUE.by("promise 10", "if none is TIGHT, a new one has LENGTH 1");
        // behind 2 boxes the room left for 1 is 0, but the rigging -1
        isStrings("101", Boxes.of("101"), 3, 2, "1 -1 -1; 1 -1 -1; ");
        isStrings("1001", Boxes.of("1001"), 4, 2, "1 0 0; 1 -1 0; ");
    }

    private static void stringsGreatestTight() {
        DUE.by("promise 10", "of the STRINGS that are TIGHT behind k BOXES one of the greatest LENGTH becomes longer by 1");
        // behind 4 boxes those of length 2 (rigging -2) and of length 1 (rigging 0) are tight
        isStrings("11011", Boxes.of("11011"), 4, 2, "2 -2 -2; 1 0 0; ");
        isStrings("11011", Boxes.of("11011"), 5, 2, "3 -3 -3; 1 0 1; ");
    }

    private static void stringsOfAll() {
        DUE.by("promise 10", "how many");
        Boxes all = Boxes.of("1".repeat(240));
        isStrings("all", all, 240, 1, "240 -240 -240; ");
        isStrings("all again", all, 240, 1, "240 -240 -240; ");
        isStrings("all but one", all, 239, 1, "239 -239 -239; ");
        isStrings("every other", Boxes.of("10".repeat(120)), 240, 120, "1 -1 0; ".repeat(120));
    }

    // ---- promise 11

    private static void stringBeforeAny() {
        DUE.by("promise 11", "BAD: -1000: also before any");
        Boxes x = Boxes.of("1");
        for (int what = -1; what <= 3; what++) {
            for (int i : new int[] {MIN, -1, 0, 1, MAX}) DUE.is("string(" + i + ", " + what + ")", x.string(i, what), NO_STRING);
        }
        x.strings(241);
        DUE.is("behind a refused one", x.string(0, 0), NO_STRING);
        x.leap(1, 0);
        DUE.is("behind a leap", x.string(0, 0), NO_STRING);
        x.strings(0);
        DUE.is("behind strings(0)", x.string(0, 0), NO_STRING);
    }

    private static void stringOther() {
        DUE.by("promise 11", "BAD: -1000");
        Boxes x = Boxes.of("1101");
        DUE.is("strings(240)", x.strings(240), 2);
        for (int what = 0; what <= 2; what++) {
            for (int i : new int[] {MIN, -1, 2, 239, 240, MAX}) DUE.is("string(" + i + ", " + what + ")", x.string(i, what), NO_STRING);
        }
        for (int what : new int[] {MIN, -1, 3, MAX}) {
            for (int i = -1; i <= 2; i++) DUE.is("string(" + i + ", " + what + ")", x.string(i, what), NO_STRING);
        }
        Boxes fewer = Boxes.of("10101");
        fewer.strings(240);
        DUE.is("string(2, 0)", fewer.string(2, 0), 1);
        fewer.strings(4);
        DUE.is("string(1, 0) of fewer", fewer.string(1, 0), 1);
        DUE.is("string(2, 0) of fewer", fewer.string(2, 0), NO_STRING);
    }

    private static void stringOfLatest() {
        DUE.by("promise 11", "of the latest strings()");
        Boxes x = Boxes.of("11011");
        x.strings(4);
        x.step(1);
        x.leap(2, 3);
        x.leap(2, 1000);
        x.empty();
        x.strings(-1);
        DUE.is("the latest stay", x.stringsText(), "2 -2 -2; 1 0 0; ");
        x.strings(0);
        DUE.is("these are the latest then", x.stringsText(), "");
    }

    private static void stringSorted() {
        DUE.by("promise 11", "SORTED .. by LENGTHS, the greatest first, of like ones by RIGGINGS, the greatest first");
        isStrings("made in the order 1, 2, 3", Boxes.of("1001100111"), 240, 3, "3 -2 228; 2 -1 230; 1 -1 234; ");
        isStrings("like ones", Boxes.of("1000100001"), 240, 3, "1 4 234; 1 1 234; 1 -1 234; ");
        isStrings("like in both", Boxes.of("1010100"), 240, 3, "1 -1 234; ".repeat(3));
    }

    private static void stringRoomLeft() {
        DUE.by("promise 11", "2 THE ROOM LEFT for its LENGTH behind those n BOXES");
        Boxes x = Boxes.of("1");
        for (int n : new int[] {1, 2, 239, 240}) {
            x.strings(n);
            DUE.is("string(0, 2) behind " + n, x.string(0, 2), n - 2);
        }
        isStrings("the lesser one of j and LENGTH", Boxes.of("1110010"), 7, 2, "3 -3 -1; 1 2 3; ");
    }

    // ---- promise 12

    private static void leapRooms() {
        DUE.by("promise 12", "a ROOM r (1 to 50)");
        Boxes x = Boxes.of("1".repeat(51));
        for (int r : new int[] {MIN, -1, 0, 51, MAX}) {
            DUE.is("leap(" + r + ", 1)", x.leap(r, 1), BAD);
            DUE.is("leap(" + r + ", 0)", x.leap(r, 0), BAD);
        }
        DUE.is("leap(1, 1)", x.leap(1, 1), 2);
        DUE.is("row(1)", x.row(1), 1);
        DUE.is("leap(50, 1)", x.leap(50, 1), 100);
        DUE.is("row(1)", x.row(1), 51);
    }

    private static void leapTimes() {
        DUE.by("promise 12", "t times (-1000 to 1000)");
        Boxes none = new Boxes();
        int[][] timesAndDue = {{MIN, BAD}, {-1001, BAD}, {-1000, 0}, {1000, 0}, {1001, BAD}, {MAX, BAD}};
        for (int[] a : timesAndDue) DUE.is("leap(1, " + a[0] + ") of no balls", none.leap(1, a[0]), a[1]);
        DUE.is("count(4)", none.count(4), 2);
        Boxes one = Boxes.of("1");
        int[][] ofOne = {{-1001, BAD}, {-1000, FULL}, {1000, FULL}, {1001, BAD}};
        for (int[] a : ofOne) DUE.is("leap(1, " + a[0] + ") of one", one.leap(1, a[0]), a[1]);
    }

    private static void leapNoTimes() {
        DUE.by("promise 12", "each RIGGING becomes t times the lesser one of r and its LENGTH more");
        String boxes = "1" + "0".repeat(100) + "1101" + "0".repeat(134) + "1";
        Boxes x = Boxes.of(boxes);
        DUE.is("leap(50, 0)", x.leap(50, 0), 0);
        DUE.is("the row", x.rowText(), boxes);
        DUE.is("count(4)", x.count(4), 1);
    }

    private static void leapLesserOne() {
        DUE.by("promise 12", "the lesser one of r and its LENGTH");
        int[][] roomAndShift = {{1, 1}, {2, 2}, {3, 3}, {4, 3}, {50, 3}};
        for (int[] a : roomAndShift) {
            Boxes x = Boxes.of("111");
            x.leap(a[0], 10);
            DUE.is("the row behind leap(" + a[0] + ", 10)", x.rowText(), Boxes.rowWith(10 * a[1], "111"));
        }
        Boxes two = Boxes.of("1100100");
        // as two steps by 2 make it: 1100100, 0011010, 00001011
        DUE.is("leap(2, 2)", two.leap(2, 2), 4);
        DUE.is("the row behind leap(2, 2)", two.rowText(), Boxes.rowWith(0, "00001011"));
    }

    /** Strings 3 and 1 that come to riggings 233 and 236: MADE from them none is left, but 232 is the room of 3. */
    private static void leapRoomLeftAlone() {
        DUE.by("promise 12", "refused (FULL), if some STRING has then a RIGGING above THE ROOM LEFT");
        Boxes x = Boxes.of("1110010");
        x.leap(2, 2);
        isStrings("behind leap(2, 2)", x, 240, 2, "3 1 232; 1 4 236; ");
        DUE.is("leap(1, 232)", x.leap(1, 232), FULL);
        DUE.is("leap(1, 231)", x.leap(1, 231), 8);
        isStrings("behind leap(1, 231)", x, 240, 2, "3 232 232; 1 235 236; ");
        DUE.is("leap(1, 1)", x.leap(1, 1), FULL);
        DUE.is("leap(1, -231)", x.leap(1, -231), 8);
        isStrings("and back", x, 240, 2, "3 1 232; 1 4 236; ");
    }

    private static void leapRoomLeftReached() {
        DUE.by("promise 12", "a RIGGING above THE ROOM LEFT for its LENGTH behind 240 BOXES");
        Boxes x = Boxes.of("1");
        DUE.is("one too far", x.leap(1, 240), FULL);
        DUE.is("to the last box", x.leap(1, 239), 2);
        DUE.is("the row", x.rowText(), Boxes.rowWith(239, "1"));
        DUE.is("further by 1", x.leap(1, 1), FULL);
        Boxes many = Boxes.of(39, "1".repeat(51));
        DUE.is("51 balls, too far", many.leap(50, 4), FULL);
        DUE.is("51 balls to the last box", many.leap(50, 3), 102);
        DUE.is("row(1) of 51", many.row(1), 189);
        DUE.is("row(2) of 51", many.row(2), 239);
    }

    private static void leapStringLeft() {
        DUE.by("promise 12", "or some STRING is left when all BOXES are MADE");
        Boxes x = Boxes.atTheEnd("1");
        DUE.is("one too far back", x.leap(1, -240), FULL);
        DUE.is("to the first box", x.leap(1, -239), 2);
        DUE.is("the row", x.rowText(), Boxes.rowWith(0, "1"));
        DUE.is("back by 1", x.leap(1, -1), FULL);
        Boxes two = Boxes.of("01101");
        DUE.is("leap(1, -2)", two.leap(1, -2), FULL);
        DUE.is("leap(1, -1)", two.leap(1, -1), 4);
        DUE.is("the row of two", two.rowText(), Boxes.rowWith(0, "1101"));
    }

    private static void leapFullRow() {
        DUE.by("promise 12", "MADE .. n BOXES, from the last one to BOX 0");
        Boxes full = Boxes.of("1".repeat(240));
        DUE.is("leap(1, 1)", full.leap(1, 1), FULL);
        DUE.is("leap(1, -1)", full.leap(1, -1), FULL);
        DUE.is("leap(50, 0)", full.leap(50, 0), 0);
        DUE.is("row(0)", full.row(0), 240);
        Boxes other = Boxes.of("10".repeat(120));
        DUE.is("every other: leap(1, 2)", other.leap(1, 2), FULL);
        DUE.is("every other: leap(1, 1)", other.leap(1, 1), 240);
        DUE.is("every other: the row", other.rowText(), "01".repeat(120));
    }

    private static void leapAllMade() {
        DUE.by("promise 12", "THE ROW is MADE from them");
        Boxes x = Boxes.of("1110010");
        DUE.is("to the last boxes", x.leap(1, 234), 8);
        DUE.is("the row", x.rowText(), Boxes.rowWith(234, "111001"));
        DUE.is("and back to the first", x.leap(1, -234), 8);
        DUE.is("the row again", x.rowText().substring(0, 7), "1110010");
    }
}
