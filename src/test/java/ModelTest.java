import java.util.Random;

/** Long runs of calls of all kinds, each answer compared with the model's; every run is the same each time. */
public final class ModelTest {
    private static final int[] FAR = {
        Integer.MIN_VALUE, Integer.MIN_VALUE + 1, -1001, -1000, -240, -1, 0, 1, 2, 3, 4, 5, 6, 11, 12, 13, 39, 40, 41,
        49, 50, 51, 99, 100, 101, 239, 240, 241, 1000, 1001, 20000, 20001, 1 << 30, Integer.MAX_VALUE - 1, Integer.MAX_VALUE
    };
    private static final String[] NAMES = {
        "set", "at", "empty", "step", "back", "kept", "row", "heap", "strings", "string", "leap", "ring", "ringAt",
        "turn", "period", "rings", "sheet", "lose", "put", "get", "copy", "load", "write", "count", "digest"
    };

    private final Random random;
    private final Due due;
    private final BallBoxes x = new BallBoxes();
    private final Model m = new Model();
    private int calls = 0;

    private ModelTest(long seed, Due due) {
        this.random = new Random(seed);
        this.due = due;
    }

    public static void main(String[] args) {
        Due due = new Due("ModelTest");
        for (int run = 0; run < 400 && !due.anyWrong(); run++) {
            new ModelTest(run, due).go(run);
        }
        due.end();
    }

    private void go(int run) {
        call(run, 24, new int[5]);
        if (run % 2 == 0) fill(run, 1 + random.nextInt(120), 1 + random.nextInt(9));
        while (calls < 512 && !due.anyWrong()) {
            int op = random.nextInt(NAMES.length);
            boolean dear = op == 14 || op == 15;
            if (op == 2 && random.nextInt(4) != 0 || dear && random.nextInt(6) != 0) continue;
            int[] a = arguments(op);
            if (random.nextInt(8) == 0) a[random.nextInt(5)] = FAR[random.nextInt(FAR.length)];
            call(run, op, a);
            if (random.nextInt(16) == 0 && calls < 512) call(run, 24, a);
        }
    }

    private void fill(int run, int boxes, int ofTen) {
        int from = random.nextInt(240 - boxes);
        for (int k = 0; k < boxes; k++) {
            if (random.nextInt(10) < ofTen) call(run, 0, new int[] {from + k, 1, 0, 0, 0});
        }
    }

    private int[] arguments(int op) {
        int r = random.nextInt(3) == 0 ? 1 + random.nextInt(50) : 1 + random.nextInt(5);
        int box = random.nextInt(240);
        int sheet = random.nextInt(4);
        int form = random.nextInt(3);
        int item = random.nextInt(12) - 1;
        switch (op) {
            case 0: return new int[] {box, random.nextInt(3), 0, 0, 0};
            case 3: case 4: case 5: case 13: case 14: return new int[] {r, 0, 0, 0, 0};
            case 6: case 23: return new int[] {random.nextInt(6), 0, 0, 0, 0};
            case 7: return new int[] {random.nextInt(10), 0, 0, 0, 0};
            case 8: return new int[] {random.nextInt(3) == 0 ? 240 : random.nextInt(241), 0, 0, 0, 0};
            case 9: return new int[] {random.nextInt(8), random.nextInt(3), 0, 0, 0};
            case 10: return new int[] {r, random.nextInt(41) - 20, 0, 0, 0};
            case 11: return new int[] {random.nextInt(220), 1 + random.nextInt(30), 0, 0, 0};
            case 12: return new int[] {random.nextInt(40), 0, 0, 0, 0};
            case 15: return new int[] {1 + random.nextInt(10), random.nextInt(5), r, random.nextInt(30), 0};
            case 16: return new int[] {sheet, form, random.nextInt(3) == 0 ? random.nextInt(101) : random.nextInt(12), 0, 0};
            case 18: return new int[] {sheet, form, item, random.nextInt() >> random.nextInt(32), 0};
            case 19: return new int[] {sheet, form, item, 0, 0};
            case 20: return new int[] {sheet, item, random.nextInt(4), random.nextInt(6), random.nextInt(8)};
            case 17: case 21: case 22: return new int[] {sheet, random.nextInt(5) == 0 ? 230 + random.nextInt(10) : box, 0, 0, 0};
            default: return new int[] {box, 0, 0, 0, 0};
        }
    }

    private void call(int run, int op, int[] a) {
        calls++;
        String name = "run " + run + " call " + calls + " " + NAMES[op] + java.util.Arrays.toString(a);
        due.is(name, ofClass(op, a), ofModel(op, a));
    }

    private long ofClass(int op, int[] a) {
        switch (op) {
            case 0: return x.set(a[0], a[1] != 0);
            case 1: return x.at(a[0]);
            case 2: return x.empty();
            case 3: return x.step(a[0]);
            case 4: return x.back(a[0]);
            case 5: return x.kept(a[0]);
            case 6: return x.row(a[0]);
            case 7: return x.heap(a[0]);
            case 8: return x.strings(a[0]);
            case 9: return x.string(a[0], a[1]);
            case 10: return x.leap(a[0], a[1]);
            case 11: return x.ring(a[0], a[1]);
            case 12: return x.ringAt(a[0]);
            case 13: return x.turn(a[0]);
            case 14: return x.period(a[0]);
            case 15: return x.rings(a[0], a[1], a[2], a[3]);
            case 16: return x.sheet(a[0], a[1], a[2]);
            case 17: return x.lose(a[0]);
            case 18: return x.put(a[0], a[1], a[2], a[3]);
            case 19: return x.get(a[0], a[1], a[2]);
            case 20: return x.copy(a[0], a[1], a[2], a[3], a[4]);
            case 21: return x.load(a[0], a[1]);
            case 22: return x.write(a[0], a[1]);
            case 23: return x.count(a[0]);
            default: return x.digest();
        }
    }

    private long ofModel(int op, int[] a) {
        switch (op) {
            case 0: return m.set(a[0], a[1] != 0);
            case 1: return m.at(a[0]);
            case 2: return m.empty();
            case 3: return m.step(a[0]);
            case 4: return m.back(a[0]);
            case 5: return m.kept(a[0]);
            case 6: return m.row(a[0]);
            case 7: return m.heap(a[0]);
            case 8: return m.strings(a[0]);
            case 9: return m.string(a[0], a[1]);
            case 10: return m.leap(a[0], a[1]);
            case 11: return m.ring(a[0], a[1]);
            case 12: return m.ringAt(a[0]);
            case 13: return m.turn(a[0]);
            case 14: return m.period(a[0]);
            case 15: return m.rings(a[0], a[1], a[2], a[3]);
            case 16: return m.sheet(a[0], a[1], a[2]);
            case 17: return m.lose(a[0]);
            case 18: return m.put(a[0], a[1], a[2], a[3]);
            case 19: return m.get(a[0], a[1], a[2]);
            case 20: return m.copy(a[0], a[1], a[2], a[3], a[4]);
            case 21: return m.load(a[0], a[1]);
            case 22: return m.write(a[0], a[1]);
            case 23: return m.count(a[0]);
            default: return m.digest();
        }
    }
}
