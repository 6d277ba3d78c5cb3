import java.util.function.ToIntFunction;

/** Every row of a few boxes at either end of the row, each call on it compared with the model's answer. */
public final class EdgeRowsTest {
    private static final Due DUE = new Due("EdgeRowsTest");
    private static final int BOXES = 8;
    private static final int[] ROOMS = {1, 2, 3, 4, 50};

    public static void main(String[] args) {
        for (int from : new int[] {0, 1, 240 - BOXES - 1, 240 - BOXES}) {
            for (int bits = 0; bits < 1 << BOXES && !DUE.anyWrong(); bits++) {
                StringBuilder boxes = new StringBuilder();
                for (int k = 0; k < BOXES; k++) boxes.append(bits >> k & 1);
                isRow(from, boxes.toString());
            }
        }
        DUE.end();
    }

    private static void isRow(int from, String boxes) {
        asked(from, boxes);
        for (int r : ROOMS) {
            moved("step(" + r + ")", from, boxes, x -> x.step(r), m -> m.step(r));
            moved("back(" + r + ")", from, boxes, x -> x.back(r), m -> m.back(r));
            for (int t : new int[] {-2, -1, 1, 2, 228, 232}) {
                moved("leap(" + r + ", " + t + ")", from, boxes, x -> x.leap(r, t), m -> m.leap(r, t));
            }
        }
    }

    private static Model modelOf(int from, String boxes) {
        Model m = new Model();
        for (int k = 0; k < boxes.length(); k++) m.set(from + k, boxes.charAt(k) == '1');
        return m;
    }

    private static void asked(int from, String boxes) {
        Boxes x = Boxes.of(from, boxes);
        Model m = modelOf(from, boxes);
        String row = boxes + " at " + from + ": ";
        for (int what = 0; what < 4; what++) DUE.is(row + "row(" + what + ")", x.row(what), m.row(what));
        for (int i = 0; i <= BOXES; i++) DUE.is(row + "heap(" + i + ")", x.heap(i), m.heap(i));
        for (int r : ROOMS) DUE.is(row + "kept(" + r + ")", x.kept(r), m.kept(r));
        for (int n : new int[] {from, from + 1, from + 4, from + BOXES, 239, 240}) {
            int many = x.strings(n);
            DUE.is(row + "strings(" + n + ")", many, m.strings(n));
            for (int i = 0; i <= many; i++) {
                for (int what = 0; what < 3; what++) {
                    DUE.is(row + "string(" + i + ", " + what + ") of " + n, x.string(i, what), m.string(i, what));
                }
            }
        }
        DUE.is(row + "digest()", x.digest(), m.digest());
    }

    private static void moved(String call, int from, String boxes, ToIntFunction<Boxes> move, ToIntFunction<Model> ofModel) {
        Boxes x = Boxes.of(from, boxes);
        Model m = modelOf(from, boxes);
        DUE.is(boxes + " at " + from + ": " + call, move.applyAsInt(x), ofModel.applyAsInt(m));
        DUE.is(boxes + " at " + from + ": digest() behind " + call, x.digest(), m.digest());
    }
}
