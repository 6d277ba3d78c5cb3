import java.util.List;
import java.util.function.ToIntFunction;

/**
 * 'They change nothing (FINDINGS but count() 5)': every kind of refusal of every call, made on an object that has
 * something of everything, which is then compared with another one that was made alike and has refused nothing.
 */
public final class RefusalsTest {
    private static final Due DUE = new Due("RefusalsTest");
    private static final int MIN = Integer.MIN_VALUE, MAX = Integer.MAX_VALUE;
    private static final int BAD = -2, NOT = -3, FULL = -4, SPENT = -5;
    private static final int NULL = -11, INDEX = -12, CAST = -13, STORE = -14, SIZE = -15;
    private static final int NO_FINDING = 0;

    /** Its period by 5 is 20007. */
    private static final String RING = "111100000000011111000000000011000000000";
    private static final int[][] ITEMS = {{5, -6, 7}, {300, -1}, {70000, MIN}};

    private record Refused(String call, int due, int finding, ToIntFunction<Boxes> made) { }

    public static void main(String[] args) {
        DUE.by("Terms", "They change nothing (FINDINGS but count() 5)");
        fixtureIsAsTold();
        for (Refused refused : badOfRow()) changesNothing(refused);
        for (Refused refused : badOfStringsAndRings()) changesNothing(refused);
        for (Refused refused : badOfSheets()) changesNothing(refused);
        for (Refused refused : notFullSpent()) changesNothing(refused);
        for (Refused refused : findings()) changesNothing(refused);
        for (Refused refused : findingsOfGet()) changesNothing(refused);
        DUE.end();
    }

    private static List<Refused> badOfRow() {
        return List.of(
            refused("set(-1, true)", BAD, x -> x.set(-1, true)),
            refused("set(240, true)", BAD, x -> x.set(240, true)),
            refused("set(240, false)", BAD, x -> x.set(240, false)),
            refused("at(-1)", BAD, x -> x.at(-1)),
            refused("at(240)", BAD, x -> x.at(240)),
            refused("step(0)", BAD, x -> x.step(0)),
            refused("step(51)", BAD, x -> x.step(51)),
            refused("back(0)", BAD, x -> x.back(0)),
            refused("back(51)", BAD, x -> x.back(51)),
            refused("kept(0)", BAD, x -> x.kept(0)),
            refused("kept(51)", BAD, x -> x.kept(51)),
            refused("row(-1)", BAD, x -> x.row(-1)),
            refused("row(4)", BAD, x -> x.row(4)),
            refused("heap(-1)", BAD, x -> x.heap(-1)),
            refused("heap(240)", BAD, x -> x.heap(240)),
            refused("count(-1)", BAD, x -> x.count(-1)),
            refused("count(6)", BAD, x -> x.count(6)));
    }

    private static List<Refused> badOfStringsAndRings() {
        return List.of(
            refused("strings(-1)", BAD, x -> x.strings(-1)),
            refused("strings(241)", BAD, x -> x.strings(241)),
            refused("string(-1, 0)", -1000, x -> x.string(-1, 0)),
            refused("string(240, 0)", -1000, x -> x.string(240, 0)),
            refused("string(0, 3)", -1000, x -> x.string(0, 3)),
            refused("leap(0, 0)", BAD, x -> x.leap(0, 0)),
            refused("leap(51, 0)", BAD, x -> x.leap(51, 0)),
            refused("leap(1, 1001)", BAD, x -> x.leap(1, 1001)),
            refused("leap(1, -1001)", BAD, x -> x.leap(1, -1001)),
            refused("ring(-1, 5)", BAD, x -> x.ring(-1, 5)),
            refused("ring(10, 0)", BAD, x -> x.ring(10, 0)),
            refused("ring(10, 41)", BAD, x -> x.ring(10, 41)),
            refused("ring(201, 40)", BAD, x -> x.ring(201, 40)),
            refused("ringAt(39)", BAD, x -> x.ringAt(39)),
            refused("turn(0)", BAD, x -> x.turn(0)),
            refused("turn(51)", BAD, x -> x.turn(51)),
            refused("period(0)", BAD, x -> x.period(0)),
            refused("rings(13, 1, 1, 1)", BAD, x -> x.rings(13, 1, 1, 1)),
            refused("rings(12, 6, 1, 1)", BAD, x -> x.rings(12, 6, 1, 1)),
            refused("rings(12, 5, 51, 1)", BAD, x -> x.rings(12, 5, 51, 1)),
            refused("rings(12, 5, 1, -1)", BAD, x -> x.rings(12, 5, 1, -1)));
    }

    private static List<Refused> badOfSheets() {
        return List.of(
            refused("sheet(4, 0, 1)", BAD, x -> x.sheet(4, 0, 1)),
            refused("sheet(-1, 0, -1)", BAD, x -> x.sheet(-1, 0, -1)),
            refused("sheet(0, 3, 1)", BAD, x -> x.sheet(0, 3, 1)),
            refused("sheet(0, -1, -1)", BAD, x -> x.sheet(0, -1, -1)),
            refused("sheet(0, 0, 101)", BAD, x -> x.sheet(0, 0, 101)),
            refused("lose(-1)", BAD, x -> x.lose(-1)),
            refused("lose(4)", BAD, x -> x.lose(4)),
            refused("put(4, 0, 0, 1)", BAD, x -> x.put(4, 0, 0, 1)),
            refused("put(0, 3, 0, 1)", BAD, x -> x.put(0, 3, 0, 1)),
            refused("get(4, 0, 0)", MIN, x -> x.get(4, 0, 0)),
            refused("get(0, 3, 0)", MIN, x -> x.get(0, 3, 0)),
            refused("copy(4, 0, 0, 0, 1)", BAD, x -> x.copy(4, 0, 0, 0, 1)),
            refused("copy(0, 0, -1, 0, 1)", BAD, x -> x.copy(0, 0, -1, 0, 1)),
            refused("load(4, 0)", BAD, x -> x.load(4, 0)),
            refused("load(0, 240)", BAD, x -> x.load(0, 240)),
            refused("write(4, 0)", BAD, x -> x.write(4, 0)),
            refused("write(0, 240)", BAD, x -> x.write(0, 240)));
    }

    private static List<Refused> notFullSpent() {
        return List.of(
            refused("ring(0, 2)", NOT, x -> x.ring(0, 2)),
            refused("ring(239, 1)", NOT, x -> x.ring(239, 1)),
            refused("step(1)", FULL, x -> x.step(1)),
            refused("step(50)", FULL, x -> x.step(50)),
            refused("back(1)", FULL, x -> x.back(1)),
            refused("back(50)", FULL, x -> x.back(50)),
            refused("leap(1, 1), a RIGGING above THE ROOM LEFT", FULL, x -> x.leap(1, 1)),
            refused("leap(50, 1000)", FULL, x -> x.leap(50, 1000)),
            refused("leap(1, -1), some STRING is left", FULL, x -> x.leap(1, -1)),
            refused("leap(50, -1000)", FULL, x -> x.leap(50, -1000)),
            refused("period(5)", SPENT, x -> x.period(5)));
    }

    private static List<Refused> findings() {
        return List.of(
            finding("sheet(0, 0, -1)", SIZE, x -> x.sheet(0, 0, -1)),
            finding("sheet(3, 2, MIN)", SIZE, x -> x.sheet(3, 2, MIN)),
            finding("lose(3)", NULL, x -> x.lose(3)),
            finding("put(3, 0, 0, 1)", NULL, x -> x.put(3, 0, 0, 1)),
            finding("put(0, 1, 0, 1)", CAST, x -> x.put(0, 1, 0, 1)),
            finding("put(0, 0, 3, 1)", INDEX, x -> x.put(0, 0, 3, 1)),
            finding("put(0, 0, -1, 1)", INDEX, x -> x.put(0, 0, -1, 1)),
            finding("copy(3, 0, 0, 0, 1)", NULL, x -> x.copy(3, 0, 0, 0, 1)),
            finding("copy(0, 0, 3, 0, 1)", NULL, x -> x.copy(0, 0, 3, 0, 1)),
            finding("copy(0, 0, 1, 0, 1)", STORE, x -> x.copy(0, 0, 1, 0, 1)),
            finding("copy(0, 0, 0, 1, 3)", INDEX, x -> x.copy(0, 0, 0, 1, 3)),
            finding("copy(0, 1, 0, 0, 3)", INDEX, x -> x.copy(0, 1, 0, 0, 3)),
            finding("copy(0, 1, 0, 0, MAX)", INDEX, x -> x.copy(0, 1, 0, 0, MAX)),
            finding("load(3, 0)", NULL, x -> x.load(3, 0)),
            finding("load(0, 238)", INDEX, x -> x.load(0, 238)),
            finding("write(3, 0)", NULL, x -> x.write(3, 0)));
    }

    private static List<Refused> findingsOfGet() {
        return List.of(
            new Refused("get(3, 0, 0)", MIN, 1, x -> x.get(3, 0, 0)),
            new Refused("get(0, 0, 3)", MIN, 2, x -> x.get(0, 0, 3)),
            new Refused("get(0, 1, 0)", MIN, 3, x -> x.get(0, 1, 0)));
    }

    private static Refused refused(String call, int due, ToIntFunction<Boxes> made) {
        return new Refused(call, due, NO_FINDING, made);
    }

    private static Refused finding(String call, int due, ToIntFunction<Boxes> made) {
        return new Refused(call, due, -10 - due, made);
    }

    /** With another finding before it each time, as one might be like the one that is due. */
    private static void changesNothing(Refused refused) {
        for (int before : new int[] {NO_FINDING, 1, 4}) {
            Boxes x = somethingOfEverything(before);
            DUE.is(refused.call, refused.made.applyAsInt(x), refused.due);
            DUE.is(refused.call + " again", refused.made.applyAsInt(x), refused.due);
            DUE.is(refused.call + ": count(5)", x.count(5), refused.finding == NO_FINDING ? before : refused.finding);
            DUE.is(refused.call + ": all else", allOf(x), allOf(somethingOfEverything(before)));
        }
    }

    private static Boxes somethingOfEverything(int latestFinding) {
        Boxes x = Boxes.of("11" + "0".repeat(58) + RING + "0".repeat(139) + "11");
        x.ring(60, RING.length());
        x.strings(75);
        x.leap(1, 0);
        for (int s = 0; s < ITEMS.length; s++) x.fill(s, s, ITEMS[s]);
        if (latestFinding == 1) x.lose(3);
        if (latestFinding == 4) x.copy(0, 0, 1, 0, 1);
        return x;
    }

    /** All that the calls show, but count() 5; the sheets are lost by it. */
    private static String allOf(Boxes x) {
        StringBuilder all = new StringBuilder();
        for (int what = 0; what <= 4; what++) all.append(x.count(what)).append(' ');
        all.append(x.digest()).append("\n  ").append(x.rowText()).append("\n  ").append(x.ringText());
        all.append("\n  ").append(x.stringsText());
        for (int s = 0; s < ITEMS.length; s++) {
            for (int i = 0; i < ITEMS[s].length; i++) all.append(x.get(s, s, i)).append(' ');
        }
        for (int s = 0; s < 4; s++) all.append(x.lose(s)).append(' ');
        return all.toString();
    }

    private static void fixtureIsAsTold() {
        Boxes x = somethingOfEverything(4);
        int[] counts = {15, 39, 11, 3, 1, 4};
        for (int what = 0; what < counts.length; what++) DUE.is("count(" + what + ")", x.count(what), counts[what]);
        DUE.is("the ring", x.ringText(), RING);
        for (int s = 0; s < ITEMS.length; s++) DUE.is("lose(" + s + ")", x.lose(s), ITEMS[s].length);
        DUE.is("lose(3)", x.lose(3), NULL);
    }
}
