import java.lang.reflect.Array;
import java.util.ArrayList;
import java.util.Arrays;
import java.util.List;

/**
 * The document once more, word by word and without a thought for speed, to compare the class with.
 * It keeps its state otherwise than the class does, so that one slip is not made twice.
 */
final class Model {
    private static final int BAD = -2, NOT = -3, FULL = -4, SPENT = -5;

    private record Str(int length, int rigging) { }

    private boolean[] row = new boolean[240];
    private boolean[] ring = new boolean[1];
    private final Object[] sheets = new Object[4];
    private List<Str> latest = new ArrayList<>();
    private int latestBoxes = 0;
    private int done = 0;
    private int finding = 0;

    // ---- the row

    int set(int box, boolean ball) {
        if (box < 0 || box > 239) return BAD;
        if (row[box] == ball) return 0;
        row[box] = ball;
        return 1;
    }

    int at(int box) {
        if (box < 0 || box > 239) return BAD;
        return row[box] ? 1 : 0;
    }

    int empty() {
        int had = balls(row);
        row = new boolean[240];
        return had;
    }

    int step(int r) {
        if (r < 1 || r > 50) return BAD;
        boolean[] then = row.clone();
        return carried(then, r)[0] != 0 ? FULL : become(then);
    }

    int back(int r) {
        if (r < 1 || r > 50) return BAD;
        boolean[] then = reversed(row);
        return carried(then, r)[0] != 0 ? FULL : become(reversed(then));
    }

    int kept(int r) {
        if (r < 1 || r > 50) return BAD;
        return carried(row.clone(), r)[1];
    }

    int row(int what) {
        switch (what) {
            case 0: return balls(row);
            case 1:
                for (int k = 0; k < 240; k++) if (row[k]) return k;
                return -1;
            case 2:
                for (int k = 239; k >= 0; k--) if (row[k]) return k;
                return -1;
            case 3: {
                int heaps = 0;
                while (heap(heaps) > 0) heaps++;
                return heaps;
            }
            default: return BAD;
        }
    }

    int heap(int i) {
        if (i < 0) return BAD;
        int above = 0;
        for (int c : pairCounts()) if (c > i) above++;
        return above == 0 ? BAD : above;
    }

    private List<Integer> pairCounts() {
        List<Integer> counts = new ArrayList<>();
        StringBuilder left = new StringBuilder();
        for (boolean ball : row) left.append(ball ? '1' : '0');
        left.append("0".repeat(240));
        while (left.indexOf("1") >= 0) {
            int c = 0;
            for (int k = 0; k + 1 < left.length(); k++) {
                if (left.charAt(k) == '1' && left.charAt(k + 1) == '0') {
                    left.setCharAt(k, 'x');
                    left.setCharAt(k + 1, 'x');
                    c++;
                }
            }
            left = new StringBuilder(left.toString().replace("x", ""));
            counts.add(c);
        }
        return counts;
    }

    /** Changes the boxes; answers what the carrier has at the end, and what it took in all. */
    private static int[] carried(boolean[] boxes, int r) {
        int has = 0;
        int took = 0;
        for (int k = 0; k < boxes.length; k++) {
            if (boxes[k] && has < r) {
                has++;
                took++;
                boxes[k] = false;
            } else if (!boxes[k] && has > 0) {
                has--;
                boxes[k] = true;
            }
        }
        return new int[] {has, took};
    }

    private int become(boolean[] then) {
        int others = 0;
        for (int k = 0; k < 240; k++) if (row[k] != then[k]) others++;
        row = then;
        done++;
        return others;
    }

    private static boolean[] reversed(boolean[] boxes) {
        boolean[] then = new boolean[boxes.length];
        for (int k = 0; k < boxes.length; k++) then[boxes.length - 1 - k] = boxes[k];
        return then;
    }

    private static int balls(boolean[] boxes) {
        int balls = 0;
        for (boolean ball : boxes) if (ball) balls++;
        return balls;
    }

    // ---- strings

    int strings(int n) {
        if (n < 0 || n > 240) return BAD;
        latest = stringsOf(n);
        latest.sort((a, b) -> a.length != b.length ? b.length - a.length : b.rigging - a.rigging);
        latestBoxes = n;
        return latest.size();
    }

    int string(int i, int what) {
        if (i < 0 || i >= latest.size() || what < 0 || what > 2) return -1000;
        Str s = latest.get(i);
        return what == 0 ? s.length : what == 1 ? s.rigging : room(latest, s.length, latestBoxes);
    }

    int leap(int r, int t) {
        if (r < 1 || r > 50 || t < -1000 || t > 1000) return BAD;
        List<Str> list = stringsOf(240);
        for (int i = 0; i < list.size(); i++) {
            Str s = list.get(i);
            list.set(i, new Str(s.length, s.rigging + t * Math.min(r, s.length)));
        }
        for (Str s : list) if (s.rigging > room(list, s.length, 240)) return FULL;
        boolean[] then = new boolean[240];
        for (int k = 239; k >= 0; k--) {
            int least = -1;
            for (int i = 0; i < list.size(); i++) {
                if (tight(list, i, k + 1) && (least < 0 || list.get(i).length < list.get(least).length)) least = i;
            }
            if (least < 0) continue;
            then[k] = true;
            int length = list.get(least).length - 1;
            if (length == 0) {
                list.remove(least);
            } else {
                list.set(least, new Str(length, 0));
                list.set(least, new Str(length, room(list, length, k)));
            }
        }
        return list.isEmpty() ? become(then) : FULL;
    }

    private List<Str> stringsOf(int n) {
        List<Str> list = new ArrayList<>();
        for (int k = 0; k < n; k++) {
            if (!row[k]) continue;
            int greatest = -1;
            for (int i = 0; i < list.size(); i++) {
                if (tight(list, i, k) && (greatest < 0 || list.get(i).length > list.get(greatest).length)) greatest = i;
            }
            if (greatest < 0) {
                greatest = list.size();
                list.add(new Str(0, 0));
            }
            int length = list.get(greatest).length + 1;
            list.set(greatest, new Str(length, 0));
            list.set(greatest, new Str(length, room(list, length, k + 1)));
        }
        return list;
    }

    private static boolean tight(List<Str> list, int i, int k) {
        return list.get(i).rigging == room(list, list.get(i).length, k);
    }

    private static int room(List<Str> list, int j, int k) {
        int sum = 0;
        for (Str s : list) sum += Math.min(j, s.length);
        return k - 2 * sum;
    }

    // ---- rings

    int ring(int from, int n) {
        if (from < 0 || from > 239 || n < 1 || n > 40 || from + n > 240) return BAD;
        boolean[] then = Arrays.copyOfRange(row, from, from + n);
        if (balls(then) >= n / 2.0) return NOT;
        ring = then;
        return balls(ring);
    }

    int ringAt(int box) {
        if (box < 0 || box >= ring.length) return BAD;
        return ring[box] ? 1 : 0;
    }

    int turn(int r) {
        if (r < 1 || r > 50) return BAD;
        return turned(ring, r);
    }

    int period(int r) {
        if (r < 1 || r > 50) return BAD;
        return periodOf(ring, r);
    }

    int rings(int n, int m, int r, int p) {
        if (n < 1 || n > 12 || m < 0 || m >= n / 2.0 || r < 1 || r > 50 || p < 0) return BAD;
        int found = 0;
        for (int bits = 0; bits < 1 << n; bits++) {
            boolean[] boxes = ringOf(n, bits);
            if (balls(boxes) == m && (p == 0 || periodOf(boxes, r) == p)) found++;
        }
        return found;
    }

    /** How many of all rings have each period; there is none of these with a period above 20000. */
    static int[] periods(int n, int m, int r) {
        int[] with = new int[20001];
        for (int bits = 0; bits < 1 << n; bits++) {
            if (Integer.bitCount(bits) == m) with[periodOf(ringOf(n, bits), r)]++;
        }
        return with;
    }

    private static boolean[] ringOf(int n, int bits) {
        boolean[] boxes = new boolean[n];
        for (int k = 0; k < n; k++) boxes[k] = (bits >> k & 1) != 0;
        return boxes;
    }

    private static int periodOf(boolean[] start, int r) {
        boolean[] now = start.clone();
        for (int turns = 1; turns <= 20000; turns++) {
            turned(now, r);
            if (Arrays.equals(now, start)) return turns;
        }
        return SPENT;
    }

    private static int turned(boolean[] boxes, int r) {
        int has = carried(boxes.clone(), r)[0];
        int began = has;
        for (int k = 0; k < boxes.length; k++) {
            if (boxes[k] && has < r) {
                has++;
                boxes[k] = false;
            } else if (!boxes[k] && has > 0) {
                has--;
                boxes[k] = true;
            }
        }
        return began;
    }

    // ---- sheets, as the rows of the machine itself

    int sheet(int s, int form, int n) {
        if (s < 0 || s > 3 || form < 0 || form > 2 || n > 100) return BAD;
        if (n < 0) return find(5);
        sheets[s] = form == 0 ? new byte[n] : form == 1 ? new short[n] : new int[n];
        return n;
    }

    int lose(int s) {
        if (s < 0 || s > 3) return BAD;
        if (sheets[s] == null) return find(1);
        int had = Array.getLength(sheets[s]);
        sheets[s] = null;
        return had;
    }

    int put(int s, int form, int i, int v) {
        if (s < 0 || s > 3 || form < 0 || form > 2) return BAD;
        try {
            switch (form) {
                case 0: ((byte[]) sheets[s])[i] = (byte) v; break;
                case 1: ((short[]) sheets[s])[i] = (short) v; break;
                default: ((int[]) sheets[s])[i] = v; break;
            }
            return 1;
        } catch (NullPointerException e) {
            return find(1);
        } catch (ClassCastException e) {
            return find(3);
        } catch (ArrayIndexOutOfBoundsException e) {
            return find(2);
        }
    }

    int get(int s, int form, int i) {
        if (s < 0 || s > 3 || form < 0 || form > 2) return Integer.MIN_VALUE;
        try {
            return form == 0 ? ((byte[]) sheets[s])[i] : form == 1 ? ((short[]) sheets[s])[i] : ((int[]) sheets[s])[i];
        } catch (NullPointerException e) {
            find(1);
        } catch (ClassCastException e) {
            find(3);
        } catch (ArrayIndexOutOfBoundsException e) {
            find(2);
        }
        return Integer.MIN_VALUE;
    }

    int copy(int s, int i, int t, int j, int n) {
        if (s < 0 || s > 3 || t < 0 || t > 3) return BAD;
        try {
            System.arraycopy(sheets[s], i, sheets[t], j, n);
            return 1;
        } catch (NullPointerException e) {
            return find(1);
        } catch (ArrayStoreException e) {
            return find(4);
        } catch (IndexOutOfBoundsException e) {
            return find(2);
        }
    }

    int load(int s, int from) {
        if (s < 0 || s > 3 || from < 0 || from > 239) return BAD;
        if (sheets[s] == null) return find(1);
        int n = Array.getLength(sheets[s]);
        if (from + n - 1 > 239) return find(2);
        for (int i = 0; i < n; i++) row[from + i] = Array.getInt(sheets[s], i) > 0;
        return n;
    }

    int write(int s, int from) {
        if (s < 0 || s > 3 || from < 0 || from > 239) return BAD;
        if (sheets[s] == null) return find(1);
        int n = 0;
        while (n < Array.getLength(sheets[s]) && from + n <= 239) {
            if (sheets[s] instanceof byte[] b) b[n] = (byte) at(from + n);
            if (sheets[s] instanceof short[] b) b[n] = (short) at(from + n);
            if (sheets[s] instanceof int[] b) b[n] = at(from + n);
            n++;
        }
        return n;
    }

    int count(int what) {
        switch (what) {
            case 0: return balls(row);
            case 1: return ring.length;
            case 2: return balls(ring);
            case 3: return latest.size();
            case 4: return done;
            case 5: return finding;
            default: return BAD;
        }
    }

    long digest() {
        List<Integer> all = new ArrayList<>();
        for (int what = 0; what < 5; what++) all.add(count(what));
        for (boolean ball : row) all.add(ball ? 1 : 0);
        for (boolean ball : ring) all.add(ball ? 1 : 0);
        long h = 17;
        for (int each : all) h = h * 31 + each;
        return h;
    }

    private int find(int number) {
        finding = number;
        return -10 - number;
    }
}
