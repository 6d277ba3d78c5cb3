/**
 * An object of the class for tests. The document promises nothing behind an object's 512th call, so a
 * test that rests on a later one is stopped here.
 */
final class Boxes {
    private static final int PROMISED_CALLS = 512;

    private final BallBoxes x = new BallBoxes();
    private int calls;

    /** An object whose row begins with these boxes, '1' for a ball. */
    static Boxes of(String boxes) {
        return of(0, boxes);
    }

    static Boxes of(int from, String boxes) {
        Boxes made = new Boxes();
        for (int k = 0; k < boxes.length(); k++) {
            if (boxes.charAt(k) == '1') made.set(from + k, true);
        }
        return made;
    }

    /** An object whose row ends with these boxes. */
    static Boxes atTheEnd(String boxes) {
        return of(240 - boxes.length(), boxes);
    }

    static Boxes withSheet(int s, int form, int... items) {
        Boxes made = new Boxes();
        made.fill(s, form, items);
        return made;
    }

    void fill(int s, int form, int... items) {
        sheet(s, form, items.length);
        for (int i = 0; i < items.length; i++) put(s, form, i, items[i]);
    }

    /** The text of a whole row that has these boxes from one on, and no other balls. */
    static String rowWith(int from, String boxes) {
        return "0".repeat(from) + boxes + "0".repeat(240 - from - boxes.length());
    }

    String rowText() {
        StringBuilder text = new StringBuilder();
        for (int box = 0; box < 240; box++) text.append(at(box));
        return text.toString();
    }

    String ringText() {
        StringBuilder text = new StringBuilder();
        int size = count(1);
        for (int box = 0; box < size; box++) text.append(ringAt(box));
        return text.toString();
    }

    /** The latest strings, each as its length, its rigging and the room left. */
    String stringsText() {
        StringBuilder text = new StringBuilder();
        int size = count(3);
        for (int i = 0; i < size; i++) {
            text.append(string(i, 0)).append(' ').append(string(i, 1)).append(' ').append(string(i, 2)).append("; ");
        }
        return text.toString();
    }

    private BallBoxes called() {
        calls++;
        if (calls > PROMISED_CALLS) throw new IllegalStateException("a test rests on call " + calls + " of one object");
        return x;
    }

    int set(int box, boolean ball) {
        return called().set(box, ball);
    }

    int at(int box) {
        return called().at(box);
    }

    int empty() {
        return called().empty();
    }

    int step(int r) {
        return called().step(r);
    }

    int back(int r) {
        return called().back(r);
    }

    int kept(int r) {
        return called().kept(r);
    }

    int row(int what) {
        return called().row(what);
    }

    int heap(int i) {
        return called().heap(i);
    }

    int strings(int n) {
        return called().strings(n);
    }

    int string(int i, int what) {
        return called().string(i, what);
    }

    int leap(int r, int t) {
        return called().leap(r, t);
    }

    int ring(int from, int n) {
        return called().ring(from, n);
    }

    int ringAt(int box) {
        return called().ringAt(box);
    }

    int turn(int r) {
        return called().turn(r);
    }

    int period(int r) {
        return called().period(r);
    }

    int rings(int n, int m, int r, int p) {
        return called().rings(n, m, r, p);
    }

    int sheet(int s, int form, int n) {
        return called().sheet(s, form, n);
    }

    int lose(int s) {
        return called().lose(s);
    }

    int put(int s, int form, int i, int v) {
        return called().put(s, form, i, v);
    }

    int get(int s, int form, int i) {
        return called().get(s, form, i);
    }

    int copy(int s, int i, int t, int j, int n) {
        return called().copy(s, i, t, j, n);
    }

    int load(int s, int from) {
        return called().load(s, from);
    }

    int write(int s, int from) {
        return called().write(s, from);
    }

    int count(int what) {
        return called().count(what);
    }

    long digest() {
        return called().digest();
    }
}
