import java.math.BigInteger;

/** Promises 18 to 26: for each sentence that names a boundary case, a test of its own. */
public final class SheetBoundsTest {
    private static final Due DUE = new Due("SheetBoundsTest");
    private static final int MIN = Integer.MIN_VALUE, MAX = Integer.MAX_VALUE;
    private static final int BAD = -2;
    private static final int NULL = -11, INDEX = -12, CAST = -13, STORE = -14, SIZE = -15;
    private static final int[] NO_SHEETS = {MIN, -1, 4, MAX};
    private static final int[] NO_FORMS = {MIN, -1, 3, MAX};
    private static final int[] NO_BOXES = {MIN, -1, 240, MAX};

    public static void main(String[] args) {
        sheetsAndForms();
        sheetSoMany();
        sheetSize();
        sheetBadAheadOfSize();
        sheetZeroAtFirst();
        loseHad();
        loseNull();
        putLowestBits();
        putFirstAndLast();
        putFindings();
        putFirstThatFits();
        getLeastInt();
        getFindings();
        getFirstThatFits();
        copyAsTheyWere();
        copyNone();
        copySoMany();
        copyNull();
        copyStore();
        copyFirstThatFits();
        loadAboveZero();
        loadBeyondTheRow();
        loadNone();
        loadFirstThatFits();
        writeAsManyAsItems();
        writeAsThereAreBoxes();
        writeFirstThatFits();
        countBeforeAny();
        countOfStrings();
        countOfMoves();
        countOfFindings();
        countOther();
        digestWraps();
        digestOfAllBoxes();
        digestOfNoMore();
        DUE.end();
    }

    private static void isSheet(String what, Boxes x, int s, int form, int... items) {
        for (int i = 0; i < items.length; i++) DUE.is(what + ": item " + i, x.get(s, form, i), items[i]);
    }

    private static void isFinding(String call, Boxes x, int got, int due) {
        DUE.is(call, got, due);
        DUE.is(call + ": count(5)", x.count(5), -10 - due);
    }

    // ---- promise 18

    private static void sheetsAndForms() {
        DUE.by("promise 18", "SHEETS 0 .. 3 .. a FORM: 0 bytes, 1 shorts, 2 ints");
        Boxes x = new Boxes();
        for (int s = 0; s <= 3; s++) {
            for (int form = 0; form <= 2; form++) {
                DUE.is("sheet(" + s + ", " + form + ", 1)", x.sheet(s, form, 1), 1);
                for (int other = 0; other <= 2; other++) {
                    DUE.is("put as of " + other, x.put(s, other, 0, 1), other == form ? 1 : CAST);
                }
            }
        }
        for (int s : NO_SHEETS) DUE.is("sheet(" + s + ", 0, 1)", x.sheet(s, 0, 1), BAD);
        for (int form : NO_FORMS) DUE.is("sheet(0, " + form + ", 1)", x.sheet(0, form, 1), BAD);
    }

    private static void sheetSoMany() {
        DUE.by("promise 18", "of 0 to 100 items");
        for (int form = 0; form <= 2; form++) {
            Boxes x = new Boxes();
            DUE.is("0 items", x.sheet(0, form, 0), 0);
            isFinding("item 0 of 0", x, x.put(0, form, 0, 1), INDEX);
            DUE.is("1 item", x.sheet(0, form, 1), 1);
            isFinding("item 1 of 1", x, x.put(0, form, 1, 1), INDEX);
            DUE.is("100 items", x.sheet(0, form, 100), 100);
            DUE.is("item 99 of 100", x.put(0, form, 99, 1), 1);
            isFinding("item 100 of 100", x, x.put(0, form, 100, 1), INDEX);
            DUE.is("101 items", x.sheet(0, form, 101), BAD);
            DUE.is("more items than can be", x.sheet(0, form, MAX), BAD);
            DUE.is("item 99 stays", x.get(0, form, 99), 1);
            DUE.is("still 100", x.lose(0), 100);
        }
    }

    private static void sheetSize() {
        DUE.by("promise 18", "SIZE: below 0");
        for (int n : new int[] {-1, -100, MIN}) {
            Boxes x = Boxes.withSheet(0, 1, 7);
            isFinding("sheet(0, 1, " + n + ")", x, x.sheet(0, 1, n), SIZE);
            DUE.is("the one that was", x.get(0, 1, 0), 7);
            isFinding("sheet(1, 1, " + n + ")", x, x.sheet(1, 1, n), SIZE);
            isFinding("the one that is lost", x, x.lose(1), NULL);
        }
    }

    private static void sheetBadAheadOfSize() {
        DUE.by("promise 18", "BAD: SHEET, FORM, above 100; SIZE");
        Boxes x = new Boxes();
        for (int s : NO_SHEETS) DUE.is("sheet(" + s + ", 0, -1)", x.sheet(s, 0, -1), BAD);
        for (int form : NO_FORMS) DUE.is("sheet(0, " + form + ", -1)", x.sheet(0, form, -1), BAD);
        DUE.is("no finding", x.count(5), 0);
    }

    private static void sheetZeroAtFirst() {
        DUE.by("promise 18", "A SHEET is a new row .. (0 at first)");
        Boxes x = Boxes.withSheet(0, 2, 1, 2, 3);
        DUE.is("anew", x.sheet(0, 2, 3), 3);
        isSheet("anew", x, 0, 2, 0, 0, 0);
        x.fill(0, 2, 1, 2, 3);
        x.sheet(0, 2, 1);
        x.sheet(0, 2, 3);
        isSheet("behind a shorter one", x, 0, 2, 0, 0, 0);
        x.fill(0, 2, 1, 2, 3);
        x.lose(0);
        x.sheet(0, 0, 100);
        isSheet("behind a lost one", x, 0, 0, new int[100]);
    }

    // ---- promise 19

    private static void loseHad() {
        DUE.by("promise 19", "It is LOST: how many items it had");
        Boxes x = new Boxes();
        int[] items = {0, 1, 99, 100};
        for (int s = 0; s <= 3; s++) x.sheet(s, s % 3, items[s]);
        for (int s = 0; s <= 3; s++) DUE.is("lose(" + s + ")", x.lose(s), items[s]);
        for (int s = 0; s <= 3; s++) isFinding("lose(" + s + ") again", x, x.lose(s), NULL);
    }

    private static void loseNull() {
        DUE.by("promise 19", "BAD; NULL");
        Boxes x = new Boxes();
        for (int s : NO_SHEETS) DUE.is("lose(" + s + ")", x.lose(s), BAD);
        DUE.is("no finding", x.count(5), 0);
        x.sheet(1, 0, 0);
        for (int s : new int[] {0, 2, 3}) isFinding("lose(" + s + ")", x, x.lose(s), NULL);
        DUE.is("one of no items is not lost", x.lose(1), 0);
    }

    // ---- promise 20

    private static void putLowestBits() {
        DUE.by("promise 20", "becomes v (the lowest bits that it has)");
        int[] v = {127, 128, 255, 256, -128, -129, 32767, 32768, 65535, 65536, -32768, -32769, MAX, MIN};
        int[][] due = {
            {127, -128, -1, 0, -128, 127, -1, 0, -1, 0, 0, -1, -1, 0},
            {127, 128, 255, 256, -128, -129, 32767, -32768, -1, 0, -32768, 32767, -1, 0},
            v
        };
        for (int form = 0; form <= 2; form++) isSheet("form " + form, Boxes.withSheet(form, form, v), form, form, due[form]);
    }

    private static void putFirstAndLast() {
        DUE.by("promise 20", "Item i .. becomes v: 1");
        Boxes x = Boxes.withSheet(0, 0, 1, 2, 3);
        DUE.is("item 0", x.put(0, 0, 0, 8), 1);
        DUE.is("item 2", x.put(0, 0, 2, 9), 1);
        DUE.is("the same again", x.put(0, 0, 2, 9), 1);
        isSheet("the sheet", x, 0, 0, 8, 2, 9);
    }

    private static void putFindings() {
        DUE.by("promise 20", "BAD; NULL; CAST; INDEX");
        Boxes x = Boxes.withSheet(1, 1, 7, 8);
        for (int s : NO_SHEETS) DUE.is("put(" + s + ", 1, 0, 1)", x.put(s, 1, 0, 1), BAD);
        for (int form : NO_FORMS) DUE.is("put(1, " + form + ", 0, 1)", x.put(1, form, 0, 1), BAD);
        DUE.is("no finding", x.count(5), 0);
        isFinding("lost", x, x.put(0, 1, 0, 1), NULL);
        isFinding("as bytes", x, x.put(1, 0, 0, 1), CAST);
        isFinding("as ints", x, x.put(1, 2, 0, 1), CAST);
        for (int i : new int[] {MIN, -1, 2, 100, MAX}) isFinding("item " + i, x, x.put(1, 1, i, 1), INDEX);
        isSheet("the sheet", x, 1, 1, 7, 8);
    }

    private static void putFirstThatFits() {
        DUE.by("promise 20", "Refusals, the first that fits");
        Boxes x = Boxes.withSheet(1, 1, 7);
        DUE.is("no such FORM of a lost one", x.put(0, 3, 0, 1), BAD);
        DUE.is("no such FORM, no such item", x.put(1, 3, 9, 1), BAD);
        DUE.is("no such SHEET, no such FORM, no such item", x.put(4, 3, 9, 1), BAD);
        isFinding("lost, no such item", x, x.put(0, 1, 9, 1), NULL);
        isFinding("another FORM, no such item", x, x.put(1, 0, 9, 1), CAST);
        x.lose(1);
        isFinding("lost that had another FORM", x, x.put(1, 0, 0, 1), NULL);
    }

    // ---- promise 21

    private static void getLeastInt() {
        DUE.by("promise 21", "BAD: the least int");
        Boxes x = Boxes.withSheet(0, 2, MIN);
        for (int s : NO_SHEETS) DUE.is("get(" + s + ", 2, 0)", x.get(s, 2, 0), MIN);
        for (int form : NO_FORMS) DUE.is("get(0, " + form + ", 0)", x.get(0, form, 0), MIN);
        DUE.is("an item that is the least int", x.get(0, 2, 0), MIN);
        DUE.is("no finding", x.count(5), 0);
    }

    private static void getFindings() {
        DUE.by("promise 21", "so are NULL, CAST, INDEX (count() 5 tells)");
        Boxes x = Boxes.withSheet(1, 1, 7, 8);
        DUE.is("lost", x.get(0, 1, 0), MIN);
        DUE.is("count(5)", x.count(5), 1);
        for (int form : new int[] {0, 2}) {
            x.lose(0);
            DUE.is("as of " + form, x.get(1, form, 0), MIN);
            DUE.is("count(5)", x.count(5), 3);
        }
        for (int i : new int[] {MIN, -1, 2, 100, MAX}) {
            x.lose(0);
            DUE.is("item " + i, x.get(1, 1, i), MIN);
            DUE.is("count(5)", x.count(5), 2);
        }
        isSheet("the sheet", x, 1, 1, 7, 8);
    }

    private static void getFirstThatFits() {
        DUE.by("promise 21", "Refusals, the first that fits");
        Boxes x = Boxes.withSheet(1, 1, 7);
        x.get(0, 3, 0);
        x.get(1, 3, 9);
        x.get(4, 1, 9);
        DUE.is("BAD is no finding", x.count(5), 0);
        x.get(0, 1, 9);
        DUE.is("lost, no such item", x.count(5), 1);
        x.get(1, 0, 9);
        DUE.is("another FORM, no such item", x.count(5), 3);
        x.lose(1);
        x.get(1, 0, 0);
        DUE.is("lost that had another FORM", x.count(5), 1);
    }

    // ---- promise 22

    private static void copyAsTheyWere() {
        DUE.by("promise 22", "perhaps s, as they were");
        Boxes ahead = Boxes.withSheet(0, 1, 1, 2, 3, 4, 5);
        DUE.is("to a later item", ahead.copy(0, 0, 0, 1, 4), 1);
        isSheet("to a later item", ahead, 0, 1, 1, 1, 2, 3, 4);
        Boxes back = Boxes.withSheet(0, 1, 1, 2, 3, 4, 5);
        DUE.is("to an earlier item", back.copy(0, 1, 0, 0, 4), 1);
        isSheet("to an earlier item", back, 0, 1, 2, 3, 4, 5, 5);
        DUE.is("to itself", back.copy(0, 0, 0, 0, 5), 1);
        isSheet("to itself", back, 0, 1, 2, 3, 4, 5, 5);
        for (int form = 0; form <= 2; form++) {
            Boxes other = Boxes.withSheet(2, form, 1, 2, -3);
            other.fill(3, form, 9, 9, 9);
            DUE.is("to another sheet", other.copy(2, 1, 3, 0, 2), 1);
            isSheet("to another sheet", other, 3, form, 2, -3, 9);
            isSheet("from", other, 2, form, 1, 2, -3);
        }
    }

    private static void copyNone() {
        DUE.by("promise 22", "n items");
        Boxes x = Boxes.withSheet(0, 2, 1, 2, 3);
        x.fill(1, 2, 7, 8);
        x.sheet(2, 2, 0);
        DUE.is("none, from the first on", x.copy(0, 0, 1, 0, 0), 1);
        DUE.is("none, from behind the last on", x.copy(0, 3, 1, 2, 0), 1);
        DUE.is("none of no items", x.copy(2, 0, 2, 0, 0), 1);
        isSheet("the sheet", x, 1, 2, 7, 8);
    }

    private static void copySoMany() {
        DUE.by("promise 22", "INDEX: below 0, not so many");
        int[][] good = {{0, 0, 2}, {1, 0, 2}, {2, 0, 1}, {0, 1, 1}};
        for (int[] a : good) DUE.is("copy " + a[0] + ", " + a[1] + ", " + a[2], three().copy(0, a[0], 1, a[1], a[2]), 1);
        int[][] outside = {
            {-1, 0, 1}, {0, -1, 1}, {0, 0, -1}, {-1, 0, 0}, {0, -1, 0}, {2, 0, 2}, {0, 1, 2}, {0, 0, 3}, {3, 0, 1}, {0, 2, 1},
            {4, 0, 0}, {0, 3, 0}, {MAX, 0, 1}, {0, MAX, 1}, {0, 0, MAX}, {1, 1, MAX}, {MAX, MAX, MAX}, {MIN, 0, 1}, {0, MIN, 1},
            {0, 0, MIN}, {MIN, MIN, MIN}, {MAX, 0, 0}
        };
        for (int[] a : outside) {
            Boxes x = three();
            isFinding("copy " + a[0] + ", " + a[1] + ", " + a[2], x, x.copy(0, a[0], 1, a[1], a[2]), INDEX);
            isSheet("from", x, 0, 2, 1, 2, 3);
            isSheet("to", x, 1, 2, 7, 8);
        }
        Boxes hundred = new Boxes();
        hundred.sheet(0, 0, 100);
        hundred.sheet(1, 0, 100);
        hundred.put(0, 0, 99, 5);
        DUE.is("a hundred", hundred.copy(0, 0, 1, 0, 100), 1);
        DUE.is("item 99", hundred.get(1, 0, 99), 5);
        DUE.is("a hundred and one", hundred.copy(0, 0, 1, 0, 101), INDEX);
    }

    /** Ints: sheet 0 of three items, sheet 1 of two. */
    private static Boxes three() {
        Boxes x = Boxes.withSheet(0, 2, 1, 2, 3);
        x.fill(1, 2, 7, 8);
        return x;
    }

    private static void copyNull() {
        DUE.by("promise 22", "BAD: the SHEETS; NULL: s, t");
        Boxes x = three();
        for (int s : NO_SHEETS) {
            DUE.is("copy from " + s, x.copy(s, 0, 1, 0, 1), BAD);
            DUE.is("copy to " + s, x.copy(0, 0, s, 0, 1), BAD);
        }
        DUE.is("no finding", x.count(5), 0);
        isFinding("from a lost one", x, x.copy(2, 0, 1, 0, 1), NULL);
        x.put(0, 0, 0, 0);
        isFinding("to a lost one", x, x.copy(0, 0, 2, 0, 1), NULL);
        isFinding("none to a lost one", x, x.copy(0, 0, 2, 0, 0), NULL);
        isFinding("both are lost", x, x.copy(3, 0, 2, 0, 1), NULL);
        isFinding("a lost one to itself", x, x.copy(3, 0, 3, 0, 0), NULL);
    }

    private static void copyStore() {
        DUE.by("promise 22", "STORE: unlike FORMS");
        for (int form = 0; form <= 2; form++) {
            for (int other = 0; other <= 2; other++) {
                Boxes x = Boxes.withSheet(0, form, 1);
                x.fill(1, other, 7);
                if (form == other) {
                    DUE.is("like FORMS", x.copy(0, 0, 1, 0, 1), 1);
                } else {
                    isFinding("form " + form + " to " + other, x, x.copy(0, 0, 1, 0, 1), STORE);
                    isFinding("none of them", x, x.copy(0, 0, 1, 0, 0), STORE);
                    isSheet("to", x, 1, other, 7);
                }
            }
        }
    }

    private static void copyFirstThatFits() {
        DUE.by("promise 22", "Refusals, the first that fits");
        Boxes x = Boxes.withSheet(0, 2, 1);
        x.fill(1, 0, 7);
        DUE.is("no such SHEET, a lost one", x.copy(4, 0, 2, 0, 1), BAD);
        DUE.is("a lost one, no such SHEET", x.copy(2, 0, 4, 0, 1), BAD);
        DUE.is("no such SHEET, not so many", x.copy(0, 9, -1, 9, 9), BAD);
        isFinding("from a lost one, not so many", x, x.copy(2, -1, 0, -1, -1), NULL);
        isFinding("to a lost one, not so many", x, x.copy(0, 9, 2, 9, 9), NULL);
        isFinding("unlike FORMS, not so many", x, x.copy(0, 9, 1, 9, 9), STORE);
        isFinding("unlike FORMS, below 0", x, x.copy(0, -1, 1, 0, -1), STORE);
        x.lose(1);
        isFinding("lost that had another FORM", x, x.copy(0, 0, 1, 0, 1), NULL);
    }

    // ---- promise 23

    private static void loadAboveZero() {
        DUE.by("promise 23", "BALLS where items of a SHEET are above 0, none where they are not");
        int[][] items = {{1, 0, -1, 127, -128}, {1, 0, -1, 32767, -32768}, {1, 0, -1, MAX, MIN}};
        for (int form = 0; form <= 2; form++) {
            Boxes none = Boxes.withSheet(0, form, items[form]);
            DUE.is("load(0, 7)", none.load(0, 7), 5);
            DUE.is("the row", none.rowText(), Boxes.rowWith(7, "10010"));
            Boxes all = Boxes.withSheet(0, form, items[form]);
            for (int box = 0; box < 20; box++) all.set(box, true);
            DUE.is("load(0, 7) over balls", all.load(0, 7), 5);
            DUE.is("the row", all.rowText(), Boxes.rowWith(0, "1111111" + "10010" + "11111111"));
        }
        Boxes cut = Boxes.withSheet(0, 0, 128, 256);
        cut.load(0, 0);
        DUE.is("bytes that 128 and 256 became", cut.row(0), 0);
    }

    private static void loadBeyondTheRow() {
        DUE.by("promise 23", "INDEX: they go beyond BOX 239");
        Boxes two = Boxes.withSheet(0, 0, 1, 1);
        DUE.is("load(0, 238)", two.load(0, 238), 2);
        DUE.is("the row", two.rowText(), Boxes.rowWith(238, "11"));
        two.empty();
        isFinding("load(0, 239)", two, two.load(0, 239), INDEX);
        DUE.is("row(0)", two.row(0), 0);
        Boxes hundred = new Boxes();
        hundred.sheet(0, 2, 100);
        hundred.put(0, 2, 0, 1);
        hundred.put(0, 2, 99, 1);
        DUE.is("load(0, 140)", hundred.load(0, 140), 100);
        DUE.is("the row", hundred.rowText(), Boxes.rowWith(140, "1" + "0".repeat(98) + "1"));
        isFinding("load(0, 141)", hundred, hundred.load(0, 141), INDEX);
        DUE.is("row(1)", hundred.row(1), 140);
        DUE.is("load(0, 0)", hundred.load(0, 0), 100);
    }

    private static void loadNone() {
        DUE.by("promise 23", "how many items");
        Boxes x = new Boxes();
        x.sheet(0, 0, 0);
        x.set(0, true);
        x.set(239, true);
        DUE.is("no items at box 0", x.load(0, 0), 0);
        DUE.is("no items at box 239", x.load(0, 239), 0);
        DUE.is("no items at box 240", x.load(0, 240), BAD);
        DUE.is("row(0)", x.row(0), 2);
    }

    private static void loadFirstThatFits() {
        DUE.by("promise 23", "BAD: the SHEET, the BOX; NULL; INDEX");
        Boxes x = Boxes.withSheet(0, 0, 1, 1);
        for (int s : NO_SHEETS) DUE.is("load(" + s + ", 0)", x.load(s, 0), BAD);
        for (int box : NO_BOXES) {
            DUE.is("load(0, " + box + ")", x.load(0, box), BAD);
            DUE.is("load(1, " + box + ") of a lost one", x.load(1, box), BAD);
        }
        DUE.is("no finding", x.count(5), 0);
        isFinding("a lost one", x, x.load(1, 0), NULL);
        x.load(0, 239);
        x.lose(0);
        isFinding("a lost one that had two, at box 239", x, x.load(0, 239), NULL);
    }

    // ---- promise 24

    private static void writeAsManyAsItems() {
        DUE.by("promise 24", "1 for a BALL, else 0, as many as it has items for");
        for (int form = 0; form <= 2; form++) {
            Boxes x = Boxes.withSheet(0, form, 5, -6, 7);
            x.set(0, true);
            x.set(2, true);
            x.set(3, true);
            DUE.is("write(0, 0)", x.write(0, 0), 3);
            isSheet("write(0, 0)", x, 0, form, 1, 0, 1);
            DUE.is("write(0, 1)", x.write(0, 1), 3);
            isSheet("write(0, 1)", x, 0, form, 0, 1, 1);
            x.sheet(1, form, 0);
            DUE.is("no items", x.write(1, 0), 0);
            DUE.is("row(0)", x.row(0), 3);
        }
    }

    private static void writeAsThereAreBoxes() {
        DUE.by("promise 24", "and as there are BOXES: how many");
        Boxes x = Boxes.withSheet(0, 0, 5, 6, 7);
        x.set(237, true);
        x.set(239, true);
        DUE.is("write(0, 237)", x.write(0, 237), 3);
        isSheet("write(0, 237)", x, 0, 0, 1, 0, 1);
        x.fill(0, 0, 5, 6, 7);
        DUE.is("write(0, 238)", x.write(0, 238), 2);
        isSheet("write(0, 238)", x, 0, 0, 0, 1, 7);
        x.fill(0, 0, 5, 6, 7);
        DUE.is("write(0, 239)", x.write(0, 239), 1);
        isSheet("write(0, 239)", x, 0, 0, 1, 6, 7);
        x.sheet(1, 2, 100);
        DUE.is("a hundred at 140", x.write(1, 140), 100);
        DUE.is("item 99", x.get(1, 2, 99), 1);
        DUE.is("a hundred at 141", x.write(1, 141), 99);
        DUE.is("item 98", x.get(1, 2, 98), 1);
        DUE.is("item 99 stays", x.get(1, 2, 99), 1);
        DUE.is("no finding", x.count(5), 0);
    }

    private static void writeFirstThatFits() {
        DUE.by("promise 24", "BAD; NULL");
        Boxes x = Boxes.withSheet(0, 0, 5);
        x.set(0, true);
        for (int s : NO_SHEETS) DUE.is("write(" + s + ", 0)", x.write(s, 0), BAD);
        for (int box : NO_BOXES) {
            DUE.is("write(0, " + box + ")", x.write(0, box), BAD);
            DUE.is("write(1, " + box + ") to a lost one", x.write(1, box), BAD);
        }
        DUE.is("no finding", x.count(5), 0);
        isFinding("a lost one", x, x.write(1, 239), NULL);
        isSheet("the sheet", x, 0, 0, 5);
    }

    // ---- promise 25

    private static void countBeforeAny() {
        DUE.by("promise 25", "(0 before any)");
        Boxes x = Boxes.of("11");
        x.leap(1, 1);
        x.strings(-1);
        x.sheet(4, 0, 0);
        DUE.is("count(3) before any strings()", x.count(3), 0);
        DUE.is("count(5) before any FINDING", x.count(5), 0);
    }

    private static void countOfStrings() {
        DUE.by("promise 25", "3 STRINGS of the latest strings()");
        Boxes x = Boxes.of("10101");
        x.strings(240);
        DUE.is("count(3)", x.count(3), 3);
        x.empty();
        DUE.is("count(3) of an emptied row", x.count(3), 3);
        x.strings(241);
        DUE.is("count(3) behind a refused one", x.count(3), 3);
        x.strings(0);
        DUE.is("count(3) of no boxes", x.count(3), 0);
    }

    private static void countOfMoves() {
        DUE.by("promise 25", "4 STEPS, BACKS and LEAPS done so far");
        Boxes x = Boxes.of("01");
        x.step(1);
        DUE.is("a STEP", x.count(4), 1);
        x.back(1);
        DUE.is("a BACK", x.count(4), 2);
        x.leap(1, 5);
        DUE.is("a LEAP of 5 is one", x.count(4), 3);
        x.leap(1, 0);
        DUE.is("one that changes nothing", x.count(4), 4);
        x.leap(1, 1000);
        x.leap(1, -1000);
        x.leap(0, 1);
        x.step(0);
        x.back(51);
        x.kept(1);
        x.turn(1);
        DUE.is("refused ones, and what is none", x.count(4), 4);
        x.set(239, true);
        x.set(0, true);
        x.step(1);
        x.back(1);
        DUE.is("FULL ones", x.count(4), 4);
    }

    private static void countOfFindings() {
        DUE.by("promise 25", "5 the number of the latest FINDING");
        Boxes x = Boxes.withSheet(0, 0, 1);
        x.fill(1, 1, 1);
        isFinding("NULL", x, x.lose(2), NULL);
        isFinding("INDEX", x, x.put(0, 0, 1, 1), INDEX);
        isFinding("CAST", x, x.put(0, 1, 0, 1), CAST);
        isFinding("STORE", x, x.copy(0, 0, 1, 0, 1), STORE);
        isFinding("SIZE", x, x.sheet(0, 0, -1), SIZE);
        x.put(0, 0, 0, 2);
        x.set(240, true);
        x.step(1);
        DUE.is("it stays the latest", x.count(5), 5);
    }

    private static void countOther() {
        DUE.by("promise 25", "BAD");
        for (int what : new int[] {MIN, -1, 6, MAX}) DUE.is("count(" + what + ")", new Boxes().count(what), BAD);
    }

    // ---- promise 26

    /** The digest in numbers that never wrap, cut to a long at the very end. */
    private static long digestOf(int[] counts, String row, String ring) {
        BigInteger h = BigInteger.valueOf(17);
        BigInteger by = BigInteger.valueOf(31);
        for (int count : counts) h = h.multiply(by).add(BigInteger.valueOf(count));
        for (char box : (row + ring).toCharArray()) h = h.multiply(by).add(BigInteger.valueOf(box - '0'));
        return h.longValue();
    }

    private static void digestWraps() {
        DUE.by("promise 26", "as longs that wrap");
        DUE.is("of a new object", new Boxes().digest(), digestOf(new int[] {0, 1, 0, 0, 0}, Boxes.rowWith(0, ""), "0"));
        String all = "1".repeat(240);
        DUE.is("of a full row", Boxes.of(all).digest(), digestOf(new int[] {240, 1, 0, 0, 0}, all, "0"));
    }

    private static void digestOfAllBoxes() {
        DUE.by("promise 26", "count() 0 to 4, all BOXES of THE ROW, of the RING");
        for (int box : new int[] {0, 239}) {
            Boxes x = new Boxes();
            x.set(box, true);
            DUE.is("box " + box, x.digest(), digestOf(new int[] {1, 1, 0, 0, 0}, Boxes.rowWith(box, "1"), "0"));
        }
        for (int box : new int[] {0, 39}) {
            Boxes x = new Boxes();
            x.set(box, true);
            x.ring(0, 40);
            x.leap(1, 0);
            x.strings(240);
            x.empty();
            String ring = Boxes.rowWith(box, "1").substring(0, 40);
            DUE.is("box " + box + " of the ring", x.digest(), digestOf(new int[] {0, 40, 1, 1, 1}, Boxes.rowWith(0, ""), ring));
        }
    }

    private static void digestOfNoMore() {
        DUE.by("promise 26", "h becomes 31 h and each of");
        Boxes x = Boxes.of("1");
        long before = x.digest();
        x.sheet(0, 0, 3);
        x.put(0, 0, 0, 9);
        x.lose(1);
        DUE.is("sheets and count(5) are not in it", x.digest(), before);
        DUE.is("asked twice", x.digest(), before);
    }
}
