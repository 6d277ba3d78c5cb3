import java.util.List;
import java.util.function.Consumer;

/** Promises 18 to 26: sheets, count, digest. */
public final class SheetTest {
    private static final Due DUE = new Due("SheetTest");
    private static final int MIN = Integer.MIN_VALUE, MAX = Integer.MAX_VALUE;
    private static final int[] NO_SHEETS = {-1, 4, MIN, MAX};
    private static final int[] NO_FORMS = {-1, 3, MIN, MAX};
    private static final int[] NO_BOXES = {-1, 240, MIN, MAX};

    public static void main(String[] args) {
        sheet();
        sheetIsNew();
        lose();
        put();
        putRefused();
        get();
        copy();
        copyOverItself();
        copyRefused();
        load();
        write();
        findings();
        count();
        digest();
        DUE.end();
    }

    private static void isSheet(String when, Boxes x, int s, int form, int... items) {
        for (int i = 0; i < items.length; i++) DUE.is(when + ": get " + i, x.get(s, form, i), items[i]);
        DUE.is(when + ": one too many", x.get(s, form, items.length), MIN);
        DUE.is(when + ": INDEX", x.count(5), 2);
    }

    private static void sheet() {
        for (int s = 0; s < 4; s++) {
            for (int form = 0; form < 3; form++) {
                Boxes each = new Boxes();
                for (int n : new int[] {0, 1, 100}) {
                    DUE.is("sheet", each.sheet(s, form, n), n);
                    isSheet("new", each, s, form, new int[n]);
                }
            }
        }
        Boxes x = new Boxes();
        DUE.is("sheet(0, 2, 100)", x.sheet(0, 2, 100), 100);
        isSheet("a hundred", x, 0, 2, new int[100]);
        for (int s : NO_SHEETS) DUE.is("sheet(" + s + ", 0, 1)", x.sheet(s, 0, 1), -2);
        for (int form : NO_FORMS) DUE.is("sheet(0, " + form + ", 1)", x.sheet(0, form, 1), -2);
        for (int n : new int[] {101, MAX}) DUE.is("sheet(0, 0, " + n + ")", x.sheet(0, 0, n), -2);
        DUE.is("BAD tells no finding", x.count(5), 2);
        for (int n : new int[] {-1, -100, MIN}) DUE.is("sheet(0, 0, " + n + ")", x.sheet(0, 0, n), -15);
        DUE.is("SIZE", x.count(5), 5);
        DUE.is("BAD ahead of SIZE: sheet", x.sheet(4, 0, -1), -2);
        DUE.is("BAD ahead of SIZE: form", x.sheet(0, 3, -1), -2);
        isSheet("refusals change nothing", x, 0, 2, new int[100]);
    }

    private static void sheetIsNew() {
        Boxes x = Boxes.withSheet(1, 2, 5, 6, 7);
        DUE.is("a new one in its place", x.sheet(1, 2, 3), 3);
        isSheet("items are 0 again", x, 1, 2, 0, 0, 0);
        x.fill(1, 2, 5, 6, 7);
        DUE.is("shorter", x.sheet(1, 0, 1), 1);
        DUE.is("longer", x.sheet(1, 2, 3), 3);
        isSheet("items are 0 again", x, 1, 2, 0, 0, 0);
        x.fill(1, 2, 5, 6, 7);
        DUE.is("lost", x.lose(1), 3);
        DUE.is("anew", x.sheet(1, 2, 4), 4);
        isSheet("anew", x, 1, 2, 0, 0, 0, 0);
    }

    private static void lose() {
        Boxes x = Boxes.withSheet(3, 1, 4, 5);
        DUE.is("lose(3)", x.lose(3), 2);
        DUE.is("lose(3) again", x.lose(3), -11);
        DUE.is("NULL", x.count(5), 1);
        x.sheet(0, 0, 0);
        DUE.is("lose of no items", x.lose(0), 0);
        DUE.is("and it is lost", x.lose(0), -11);
        for (int s : NO_SHEETS) DUE.is("lose(" + s + ")", x.lose(s), -2);
        x.fill(1, 0, 1);
        x.fill(2, 0, 2);
        x.lose(1);
        isSheet("others are not", x, 2, 0, 2);
    }

    private static void put() {
        Boxes bytes = Boxes.withSheet(0, 0, 127, 128, 255, 256, -128, -129, MIN, MAX);
        isSheet("bytes", bytes, 0, 0, 127, -128, -1, 0, -128, 127, 0, -1);
        Boxes shorts = Boxes.withSheet(1, 1, 32767, 32768, 65535, 65536, -32769, 70000, MIN, MAX);
        isSheet("shorts", shorts, 1, 1, 32767, -32768, -1, 0, 32767, 4464, 0, -1);
        Boxes ints = Boxes.withSheet(2, 2, 32768, -65537, MIN, MAX, 0);
        isSheet("ints", ints, 2, 2, 32768, -65537, MIN, MAX, 0);
        DUE.is("over it", ints.put(2, 2, 4, 9), 1);
        isSheet("over it", ints, 2, 2, 32768, -65537, MIN, MAX, 9);
        Boxes all = new Boxes();
        all.sheet(3, 2, 100);
        DUE.is("item 99", all.put(3, 2, 99, 8), 1);
        DUE.is("item 99 then", all.get(3, 2, 99), 8);
        DUE.is("item 100", all.put(3, 2, 100, 8), -12);
    }

    private static void putRefused() {
        Boxes x = Boxes.withSheet(0, 1, 7);
        for (int s : NO_SHEETS) DUE.is("put(" + s + ", 1, 0, 1)", x.put(s, 1, 0, 1), -2);
        for (int form : NO_FORMS) DUE.is("put(0, " + form + ", 0, 1)", x.put(0, form, 0, 1), -2);
        DUE.is("BAD ahead of NULL", x.put(1, 3, 0, 1), -2);
        DUE.is("BAD ahead of INDEX", x.put(0, 3, 9, 1), -2);
        DUE.is("no finding yet", x.count(5), 0);
        DUE.is("NULL", x.put(1, 1, 0, 1), -11);
        DUE.is("NULL: count(5)", x.count(5), 1);
        DUE.is("NULL ahead of INDEX", x.put(1, 1, 9, 1), -11);
        for (int form : new int[] {0, 2}) DUE.is("CAST " + form, x.put(0, form, 0, 1), -13);
        DUE.is("CAST: count(5)", x.count(5), 3);
        DUE.is("CAST ahead of INDEX", x.put(0, 2, 1, 1), -13);
        for (int i : new int[] {-1, 1, 100, MIN, MAX}) DUE.is("INDEX " + i, x.put(0, 1, i, 1), -12);
        DUE.is("INDEX: count(5)", x.count(5), 2);
        isSheet("refusals change nothing", x, 0, 1, 7);
    }

    private static void get() {
        Boxes x = Boxes.withSheet(0, 1, 7);
        for (int s : NO_SHEETS) DUE.is("get(" + s + ", 1, 0)", x.get(s, 1, 0), MIN);
        for (int form : NO_FORMS) DUE.is("get(0, " + form + ", 0)", x.get(0, form, 0), MIN);
        DUE.is("BAD tells no finding", x.count(5), 0);
        DUE.is("NULL", x.get(1, 1, 9), MIN);
        DUE.is("NULL: count(5)", x.count(5), 1);
        for (int form : new int[] {0, 2}) {
            DUE.is("CAST", x.get(0, form, 9), MIN);
            DUE.is("CAST: count(5)", x.count(5), 3);
        }
        for (int i : new int[] {-1, 1, 100, MIN, MAX}) {
            x.lose(3);
            DUE.is("INDEX " + i, x.get(0, 1, i), MIN);
            DUE.is("INDEX: count(5)", x.count(5), 2);
        }
        DUE.is("get(0, 1, 0)", x.get(0, 1, 0), 7);
        DUE.is("what is found stays the latest", x.count(5), 2);
    }

    private static void copy() {
        Boxes x = Boxes.withSheet(0, 2, 1, 2, 3, 4, 5);
        x.fill(1, 2, 9, 9, 9);
        DUE.is("copy(0, 3, 1, 1, 2)", x.copy(0, 3, 1, 1, 2), 1);
        isSheet("target", x, 1, 2, 9, 4, 5);
        isSheet("source", x, 0, 2, 1, 2, 3, 4, 5);
        DUE.is("none", x.copy(0, 0, 1, 0, 0), 1);
        DUE.is("none at the ends", x.copy(0, 5, 1, 3, 0), 1);
        DUE.is("as many as there are", x.copy(0, 0, 1, 0, 3), 1);
        isSheet("target then", x, 1, 2, 1, 2, 3);
        x.fill(2, 0, -1, 2);
        x.fill(3, 0, 0, 0);
        DUE.is("bytes", x.copy(2, 0, 3, 0, 2), 1);
        isSheet("bytes", x, 3, 0, -1, 2);
    }

    private static void copyOverItself() {
        Boxes x = Boxes.withSheet(0, 1, 1, 2, 3, 4, 5);
        DUE.is("ahead", x.copy(0, 0, 0, 1, 4), 1);
        isSheet("ahead", x, 0, 1, 1, 1, 2, 3, 4);
        x.fill(0, 1, 1, 2, 3, 4, 5);
        DUE.is("back", x.copy(0, 1, 0, 0, 4), 1);
        isSheet("back", x, 0, 1, 2, 3, 4, 5, 5);
        DUE.is("in place", x.copy(0, 0, 0, 0, 5), 1);
        isSheet("in place", x, 0, 1, 2, 3, 4, 5, 5);
    }

    private static void copyRefused() {
        Boxes x = Boxes.withSheet(0, 2, 1, 2, 3);
        x.fill(1, 2, 7, 8);
        x.fill(2, 1, 4, 5);
        for (int s : NO_SHEETS) {
            DUE.is("copy(" + s + ", 0, 1, 0, 1)", x.copy(s, 0, 1, 0, 1), -2);
            DUE.is("copy(0, 0, " + s + ", 0, 1)", x.copy(0, 0, s, 0, 1), -2);
            DUE.is("BAD ahead of NULL", x.copy(3, 0, s, 0, 1), -2);
            DUE.is("BAD ahead of NULL", x.copy(s, 0, 3, 0, 1), -2);
        }
        DUE.is("no finding yet", x.count(5), 0);
        DUE.is("NULL, source", x.copy(3, 0, 1, 0, 1), -11);
        DUE.is("NULL, target", x.copy(0, 0, 3, 0, 1), -11);
        DUE.is("NULL, both", x.copy(3, 9, 3, 9, -1), -11);
        DUE.is("STORE", x.copy(0, 0, 2, 0, 1), -14);
        DUE.is("STORE: count(5)", x.count(5), 4);
        DUE.is("STORE of none", x.copy(2, 0, 0, 0, 0), -14);
        DUE.is("STORE ahead of INDEX", x.copy(0, -1, 2, 9, 9), -14);
        int[][] outside = {
            {-1, 0, 1}, {0, -1, 1}, {0, 0, -1}, {2, 0, 2}, {0, 1, 2}, {4, 0, 0}, {0, 3, 0}, {0, 0, 3}, {3, 0, 1},
            {MAX, 0, 1}, {0, MAX, 1}, {0, 0, MAX}, {1, 1, MAX}, {MAX, MAX, MAX}, {MIN, 0, 1}, {0, MIN, 1}, {0, 0, MIN}
        };
        for (int[] a : outside) {
            DUE.is("INDEX" + java.util.Arrays.toString(a), x.copy(0, a[0], 1, a[1], a[2]), -12);
            DUE.is("INDEX: count(5)", x.count(5), 2);
        }
        isSheet("source stays", x, 0, 2, 1, 2, 3);
        isSheet("target stays", x, 1, 2, 7, 8);
        isSheet("another stays", x, 2, 1, 4, 5);
    }

    private static void load() {
        Boxes x = Boxes.withSheet(0, 2, 1, 0, -1, MAX, MIN, 2);
        for (int k = 0; k < 240; k++) x.set(k, true);
        DUE.is("load(0, 10)", x.load(0, 10), 6);
        int[] due = {1, 1, 0, 0, 1, 0, 1, 1};
        for (int k = 0; k < due.length; k++) DUE.is("at(" + (9 + k) + ")", x.at(9 + k), due[k]);
        DUE.is("row(0)", x.row(0), 237);
        DUE.is("load(0, 234)", x.load(0, 234), 6);
        DUE.is("at(235)", x.at(235), 0);
        DUE.is("load(0, 235)", x.load(0, 235), -12);
        DUE.is("INDEX: count(5)", x.count(5), 2);
        DUE.is("load(0, 239)", x.load(0, 239), -12);
        DUE.is("load(1, 0)", x.load(1, 0), -11);
        DUE.is("NULL: count(5)", x.count(5), 1);
        for (int s : NO_SHEETS) DUE.is("load(" + s + ", 0)", x.load(s, 0), -2);
        for (int box : NO_BOXES) DUE.is("load(0, " + box + ")", x.load(0, box), -2);
        DUE.is("BAD ahead of NULL", x.load(1, 240), -2);
        DUE.is("BAD tells no finding", x.count(5), 1);
        DUE.is("row(0) behind refusals", x.row(0), 234);
        x.sheet(2, 0, 0);
        DUE.is("no items", x.load(2, 239), 0);
        DUE.is("row(0) behind none", x.row(0), 234);
        DUE.is("no move", x.count(4), 0);
        Boxes hundred = new Boxes();
        hundred.sheet(0, 1, 100);
        hundred.put(0, 1, 0, 1);
        hundred.put(0, 1, 99, 1);
        DUE.is("load(0, 140)", hundred.load(0, 140), 100);
        DUE.is("at(140)", hundred.at(140), 1);
        DUE.is("row(0) of a hundred", hundred.row(0), 2);
        DUE.is("at(239)", hundred.at(239), 1);
        DUE.is("load(0, 141)", hundred.load(0, 141), -12);
    }

    private static void write() {
        for (int form = 0; form < 3; form++) {
            Boxes x = Boxes.withSheet(0, form, 5, 6, 7, 8);
            for (int k : new int[] {2, 3, 5, 237, 239}) x.set(k, true);
            DUE.is("write(0, 2)", x.write(0, 2), 4);
            isSheet("write(0, 2)", x, 0, form, 1, 1, 0, 1);
            x.fill(0, form, 5, 6, 7, 8);
            DUE.is("write(0, 237)", x.write(0, 237), 3);
            isSheet("write(0, 237)", x, 0, form, 1, 0, 1, 8);
            DUE.is("write(0, 239)", x.write(0, 239), 1);
            DUE.is("the row stays", x.row(0), 5);
        }
        Boxes x = Boxes.withSheet(0, 0, 5);
        for (int s : NO_SHEETS) DUE.is("write(" + s + ", 0)", x.write(s, 0), -2);
        for (int box : NO_BOXES) DUE.is("write(0, " + box + ")", x.write(0, box), -2);
        DUE.is("BAD ahead of NULL", x.write(1, -1), -2);
        DUE.is("BAD tells no finding", x.count(5), 0);
        DUE.is("write(1, 0)", x.write(1, 0), -11);
        DUE.is("NULL: count(5)", x.count(5), 1);
        isSheet("refusals change nothing", x, 0, 0, 5);
        x.sheet(2, 2, 0);
        DUE.is("no items", x.write(2, 0), 0);
        x.sheet(2, 2, 100);
        DUE.is("a hundred", x.write(2, 140), 100);
        DUE.is("ninety-nine", x.write(2, 141), 99);
    }

    private static void findings() {
        Boxes x = Boxes.withSheet(0, 0, 1);
        DUE.is("digest has no findings", digestOf(x), x.digest());
        long before = x.digest();
        x.lose(1);
        x.put(0, 1, 0, 0);
        x.sheet(0, 0, -1);
        DUE.is("findings change nothing else", x.digest(), before);
        DUE.is("the latest", x.count(5), 5);
        x.set(0, true);
        x.step(1);
        DUE.is("it stays", x.count(5), 5);
        x.lose(0);
        DUE.is("also behind what is done", x.count(5), 5);
    }

    private static void count() {
        Boxes x = new Boxes();
        for (int k : new int[] {0, 1, 4}) x.set(k, true);
        x.ring(0, 9);
        x.set(8, true);
        x.strings(240);
        x.step(2);
        x.step(51);
        x.back(2);
        x.leap(2, 3);
        x.leap(2, -3);
        x.back(50);
        x.turn(3);
        x.put(0, 0, 0, 0);
        int[] due = {4, 9, 3, 3, 4, 1};
        for (int what = 0; what < due.length; what++) DUE.is("count(" + what + ")", x.count(what), due[what]);
        for (int what : new int[] {-1, 6, MIN, MAX}) DUE.is("count(" + what + ")", x.count(what), -2);
    }

    private static long digestOf(Boxes x) {
        long h = 17;
        for (int what = 0; what < 5; what++) h = 31 * h + x.count(what);
        for (int k = 0; k < 240; k++) h = 31 * h + x.at(k);
        for (int k = 0; k < x.count(1); k++) h = 31 * h + x.ringAt(k);
        return h;
    }

    private static void digest() {
        List<Consumer<Boxes>> things = List.of(
            x -> x.set(0, true), x -> x.set(1, true), x -> x.set(239, true), x -> x.ring(0, 40), x -> x.turn(2),
            x -> x.strings(100), x -> x.set(239, false), x -> x.leap(1, 5));
        long last = 0;
        for (int n = 0; n <= things.size(); n++) {
            Boxes x = new Boxes();
            for (Consumer<Boxes> thing : things.subList(0, n)) thing.accept(x);
            DUE.is("behind " + n, x.digest(), digestOf(x));
            DUE.holds("another behind " + n, x.digest() != last);
            last = x.digest();
        }
    }
}
