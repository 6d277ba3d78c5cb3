/**
 * Boxes in a row, some with a ball, and carriers that go along and shift them; strings with
 * riggings, rings of boxes, and sheets. ../shared/DOC.md says what each call answers.
 *
 * <p>All rows are made once, with the object, and used again: no call makes anything.
 */
public final class BallBoxes {
    public static final int NONE = -1, BAD = -2, NOT = -3, FULL = -4, SPENT = -5;

    private static final int BOXES = 240;
    private static final int MOST_ROOM = 50;
    private static final int MOST_TIMES = 1000;
    private static final int MOST_RING_BOXES = 40;
    private static final int MOST_ALL_RINGS_BOXES = 12;
    private static final int MOST_TURNS = 20000;
    private static final int SHEETS = 4;
    private static final int FORMS = 3;
    private static final int BYTES = 0, SHORTS = 1;
    private static final int MOST_ITEMS = 100;
    private static final int NO_STRING = -1000;
    private static final int NO_ITEM = -2147483648;
    private static final int NO_FINDING = 0, NULL = 1, INDEX = 2, CAST = 3, STORE = 4, SIZE = 5;

    private final Row theRow;
    private final Pairs pairs;
    private final Strings latestStrings;
    private final Strings leapStrings;
    private final Ring theRing;
    private final RingTrial trial;
    private final Sheet[] sheets;
    private int moves;
    private int latestFinding;

    public BallBoxes() {
        theRow = new Row();
        pairs = new Pairs();
        latestStrings = new Strings();
        leapStrings = new Strings();
        theRing = new Ring();
        trial = new RingTrial();
        sheets = new Sheet[SHEETS];
        for (int s = 0; s < sheets.length; s++) {
            sheets[s] = new Sheet();
        }
    }

    // ---- the row

    public int set(int box, boolean ball) {
        if (!isBox(box)) {
            return BAD;
        }
        int then = ball ? 1 : 0;
        if (theRow.ballAt(box) == then) {
            return 0;
        }
        theRow.place(box, then);
        return 1;
    }

    public int at(int box) {
        return isBox(box) ? theRow.ballAt(box) : BAD;
    }

    public int empty() {
        int had = theRow.balls();
        theRow.clear();
        return had;
    }

    public int step(int r) {
        return isRoom(r) ? carry(r, true) : BAD;
    }

    public int back(int r) {
        return isRoom(r) ? carry(r, false) : BAD;
    }

    public int kept(int r) {
        return isRoom(r) ? theRow.takenBy(r) : BAD;
    }

    public int row(int what) {
        switch (what) {
            case 0:
                return theRow.balls();
            case 1:
                return theRow.firstBall();
            case 2:
                return theRow.lastBall();
            case 3:
                return pairs.heapsOf(theRow);
            default:
                return BAD;
        }
    }

    public int heap(int i) {
        if (i < 0) {
            return BAD;
        }
        int balls = pairs.countsAbove(theRow, i);
        return balls > 0 ? balls : BAD;
    }

    // ---- strings

    public int strings(int n) {
        if (n < 0 || n > BOXES) {
            return BAD;
        }
        latestStrings.readFrom(theRow, n);
        latestStrings.sort();
        return latestStrings.size;
    }

    public int string(int i, int what) {
        if (!latestStrings.isString(i)) {
            return NO_STRING;
        }
        switch (what) {
            case 0:
                return latestStrings.lengthOf(i);
            case 1:
                return latestStrings.riggingOf(i);
            case 2:
                return latestStrings.roomLeft(latestStrings.lengthOf(i), latestStrings.boxesRead);
            default:
                return NO_STRING;
        }
    }

    public int leap(int r, int t) {
        if (!isRoom(r) || t < -MOST_TIMES || t > MOST_TIMES) {
            return BAD;
        }
        leapStrings.readFrom(theRow, BOXES);
        leapStrings.addToRiggings(r, t);
        if (!leapStrings.haveRoomBehind(BOXES) || !leapStrings.makeInto(theRow)) {
            return FULL;
        }
        moves++;
        return theRow.becomeMade();
    }

    // ---- rings

    public int ring(int from, int n) {
        if (!isBox(from) || n < 1 || n > MOST_RING_BOXES || from + n > BOXES) {
            return BAD;
        }
        long bits = theRow.bits(from, n);
        int balls = Long.bitCount(bits);
        if (!isFewerThanHalf(balls, n)) {
            return NOT;
        }
        theRing.become(n, bits);
        return balls;
    }

    public int ringAt(int box) {
        return theRing.isRingBox(box) ? theRing.ballAt(box) : BAD;
    }

    public int turn(int r) {
        return isRoom(r) ? theRing.turnBy(r) : BAD;
    }

    public int period(int r) {
        return isRoom(r) ? trial.periodOf(theRing, r) : BAD;
    }

    public int rings(int n, int m, int r, int p) {
        if (n < 1 || n > MOST_ALL_RINGS_BOXES || m < 0 || m > n || !isFewerThanHalf(m, n)) {
            return BAD;
        }
        if (!isRoom(r) || p < 0) {
            return BAD;
        }
        return p == 0 ? trial.countAll(n, m) : trial.countWithPeriod(n, m, r, p);
    }

    // ---- sheets

    public int sheet(int s, int form, int n) {
        Sheet sheet = sheetOf(s);
        if (sheet == null || !isForm(form) || n > MOST_ITEMS) {
            return BAD;
        }
        if (n < 0) {
            return find(SIZE);
        }
        sheet.begin(form, n);
        return n;
    }

    public int lose(int s) {
        Sheet sheet = sheetOf(s);
        if (sheet == null) {
            return BAD;
        }
        if (sheet.lost) {
            return find(NULL);
        }
        sheet.lost = true;
        return sheet.size;
    }

    public int put(int s, int form, int i, int v) {
        Sheet sheet = sheetOf(s);
        if (sheet == null || !isForm(form)) {
            return BAD;
        }
        int finding = sheet.findingAt(form, i);
        if (finding != NO_FINDING) {
            return find(finding);
        }
        sheet.place(i, v);
        return 1;
    }

    public int get(int s, int form, int i) {
        Sheet sheet = sheetOf(s);
        if (sheet == null || !isForm(form)) {
            return NO_ITEM;
        }
        int finding = sheet.findingAt(form, i);
        if (finding != NO_FINDING) {
            find(finding);
            return NO_ITEM;
        }
        return sheet.itemAt(i);
    }

    public int copy(int s, int i, int t, int j, int n) {
        Sheet source = sheetOf(s);
        Sheet target = sheetOf(t);
        if (source == null || target == null) {
            return BAD;
        }
        if (source.lost || target.lost) {
            return find(NULL);
        }
        if (source.form != target.form) {
            return find(STORE);
        }
        if (!source.hasItems(i, n) || !target.hasItems(j, n)) {
            return find(INDEX);
        }
        System.arraycopy(source.items, i, target.items, j, n);
        return 1;
    }

    public int load(int s, int from) {
        Sheet sheet = sheetOf(s);
        if (sheet == null || !isBox(from)) {
            return BAD;
        }
        if (sheet.lost) {
            return find(NULL);
        }
        if (from + sheet.size > BOXES) {
            return find(INDEX);
        }
        for (int i = 0; i < sheet.size; i++) {
            theRow.place(from + i, sheet.itemAt(i) > 0 ? 1 : 0);
        }
        return sheet.size;
    }

    public int write(int s, int from) {
        Sheet sheet = sheetOf(s);
        if (sheet == null || !isBox(from)) {
            return BAD;
        }
        if (sheet.lost) {
            return find(NULL);
        }
        int n = Math.min(sheet.size, BOXES - from);
        for (int i = 0; i < n; i++) {
            sheet.place(i, theRow.ballAt(from + i));
        }
        return n;
    }

    public int count(int what) {
        switch (what) {
            case 0:
                return theRow.balls();
            case 1:
                return theRing.size;
            case 2:
                return Long.bitCount(theRing.bits);
            case 3:
                return latestStrings.size;
            case 4:
                return moves;
            case 5:
                return latestFinding;
            default:
                return BAD;
        }
    }

    public long digest() {
        long h = 17;
        for (int what = 0; what <= 4; what++) {
            h = 31 * h + count(what);
        }
        for (int box = 0; box < BOXES; box++) {
            h = 31 * h + theRow.ballAt(box);
        }
        for (int box = 0; box < theRing.size; box++) {
            h = 31 * h + theRing.ballAt(box);
        }
        return h;
    }

    // ---- what the calls share

    private static boolean isBox(int box) {
        return box >= 0 && box < BOXES;
    }

    private static boolean isRoom(int r) {
        return r >= 1 && r <= MOST_ROOM;
    }

    private static boolean isForm(int form) {
        return form >= 0 && form < FORMS;
    }

    private static boolean isFewerThanHalf(int balls, int boxes) {
        return 2 * balls < boxes;
    }

    /**
     * The one rule of every carrier: what it has behind a box, if it had so many ahead of it.
     * No ball is lost, so the box has then: ball + had - what this answers.
     */
    private static int loadBehind(int had, int ball, int room) {
        if (ball != 0) {
            return had < room ? had + 1 : had;
        }
        return had > 0 ? had - 1 : 0;
    }

    private int carry(int r, boolean ahead) {
        if (theRow.makeByCarrier(r, ahead) != 0) {
            return FULL;
        }
        moves++;
        return theRow.becomeMade();
    }

    private Sheet sheetOf(int s) {
        return s >= 0 && s < sheets.length ? sheets[s] : null;
    }

    private int find(int finding) {
        latestFinding = finding;
        return -10 - finding;
    }

    /** The row, and beside it the row that a move makes, which counts only if it is not refused. */
    private static final class Row {
        private final int[] boxes = new int[BOXES];
        private final int[] made = new int[BOXES];

        int ballAt(int box) {
            return isBox(box) ? boxes[box] : 0;
        }

        void place(int box, int ball) {
            if (isBox(box)) {
                boxes[box] = ball;
            }
        }

        void makeBox(int box, int ball) {
            if (isBox(box)) {
                made[box] = ball;
            }
        }

        void clear() {
            for (int box = 0; box < BOXES; box++) {
                boxes[box] = 0;
            }
        }

        int balls() {
            int balls = 0;
            for (int box = 0; box < BOXES; box++) {
                balls += boxes[box];
            }
            return balls;
        }

        int firstBall() {
            for (int box = 0; box < BOXES; box++) {
                if (boxes[box] != 0) {
                    return box;
                }
            }
            return NONE;
        }

        int lastBall() {
            for (int box = BOXES - 1; box >= 0; box--) {
                if (boxes[box] != 0) {
                    return box;
                }
            }
            return NONE;
        }

        /** Boxes as bits, the first one lowest. */
        long bits(int from, int n) {
            long bits = 0;
            for (int k = 0; k < n; k++) {
                bits |= (long) ballAt(from + k) << k;
            }
            return bits;
        }

        int takenBy(int room) {
            int taken = 0;
            int has = 0;
            for (int box = 0; box < BOXES; box++) {
                int then = loadBehind(has, boxes[box], room);
                if (then > has) {
                    taken++;
                }
                has = then;
            }
            return taken;
        }

        /** Answers what the carrier has left behind the last box. */
        int makeByCarrier(int room, boolean ahead) {
            int has = 0;
            for (int k = 0; k < BOXES; k++) {
                int box = ahead ? k : BOXES - 1 - k;
                int ball = ballAt(box);
                int then = loadBehind(has, ball, room);
                makeBox(box, ball + has - then);
                has = then;
            }
            return has;
        }

        /** Answers how many boxes have become other ones. */
        int becomeMade() {
            int others = 0;
            for (int box = 0; box < BOXES; box++) {
                if (boxes[box] != made[box]) {
                    others++;
                }
                boxes[box] = made[box];
            }
            return others;
        }
    }

    /** The boxes that are left while pairs of a ball and an empty box are taken out. */
    private static final class Pairs {
        private final int[] left = new int[BOXES];
        private int size;

        /** The counts never grow from one to the next, so the first one tells how many heaps. */
        int heapsOf(Row row) {
            begin(row);
            return takeOut();
        }

        int countsAbove(Row row, int i) {
            begin(row);
            int above = 0;
            for (int round = 0; round < BOXES; round++) {
                if (takeOut() <= i) {
                    break;
                }
                above++;
            }
            return above;
        }

        private void begin(Row row) {
            for (int box = 0; box < BOXES; box++) {
                left[box] = row.ballAt(box);
            }
            size = BOXES;
        }

        /** A ball in the last box pairs with one of the empty boxes that are thought behind it. */
        private int takeOut() {
            int counted = 0;
            int stay = 0;
            int k = 0;
            while (k < size && k < BOXES) {
                boolean ball = left[k] != 0;
                boolean emptyNext = k + 1 >= size || k + 1 >= BOXES || left[k + 1] == 0;
                if (ball && emptyNext) {
                    counted++;
                    k += 2;
                } else {
                    left[stay] = left[k];
                    stay++;
                    k++;
                }
            }
            size = stay;
            return counted;
        }
    }

    /** A list of strings, each with a length and a rigging. */
    private static final class Strings {
        private final int[] lengths = new int[BOXES];
        private final int[] riggings = new int[BOXES];
        // lesserSums[j]: the sum over all strings of the lesser one of j and length. It is kept
        // as strings change, since adding it up for every string at every box would be dear.
        private final int[] lesserSums = new int[BOXES + 1];
        private int size;
        private int boxesRead;

        boolean isString(int i) {
            return i >= 0 && i < size && i < BOXES;
        }

        int lengthOf(int i) {
            return isString(i) ? lengths[i] : 0;
        }

        int riggingOf(int i) {
            return isString(i) ? riggings[i] : 0;
        }

        int roomLeft(int length, int boxes) {
            if (length < 0 || length > BOXES) {
                return 0;
            }
            return boxes - 2 * lesserSums[length];
        }

        void readFrom(Row row, int n) {
            clear();
            for (int box = 0; box < n; box++) {
                if (row.ballAt(box) != 0) {
                    takeBall(box);
                }
            }
            boxesRead = n;
        }

        /** Answers whether all strings are used up when all boxes are made. */
        boolean makeInto(Row row) {
            for (int box = BOXES - 1; box >= 0; box--) {
                row.makeBox(box, giveBall(box));
            }
            return size == 0;
        }

        void addToRiggings(int r, int t) {
            for (int i = 0; i < size && i < BOXES; i++) {
                riggings[i] += t * Math.min(r, lengths[i]);
            }
        }

        boolean haveRoomBehind(int boxes) {
            for (int i = 0; i < size && i < BOXES; i++) {
                if (riggings[i] > roomLeft(lengths[i], boxes)) {
                    return false;
                }
            }
            return true;
        }

        void sort() {
            for (int end = 1; end < size; end++) {
                for (int i = end; i > 0 && isBehind(i - 1, i); i--) {
                    swap(i - 1, i);
                }
            }
        }

        private void clear() {
            size = 0;
            for (int j = 0; j <= BOXES; j++) {
                lesserSums[j] = 0;
            }
        }

        private void takeBall(int box) {
            int i = longestTight(box);
            if (i == NONE) {
                i = addString();
            }
            if (!isString(i)) {
                return;
            }
            lengths[i]++;
            addToSums(lengths[i], 1);
            riggings[i] = roomLeft(lengths[i], box + 1);
        }

        /** Answers what the box has: 1, or 0 if no string is tight. */
        private int giveBall(int box) {
            int i = shortestTight(box + 1);
            if (!isString(i)) {
                return 0;
            }
            addToSums(lengths[i], -1);
            lengths[i]--;
            if (lengths[i] == 0) {
                removeString(i);
            } else {
                riggings[i] = roomLeft(lengths[i], box);
            }
            return 1;
        }

        /** A string that comes to reach a length, or leaves it, changes the sums from there on. */
        private void addToSums(int length, int change) {
            for (int j = Math.max(length, 0); j <= BOXES; j++) {
                lesserSums[j] += change;
            }
        }

        private boolean isTight(int i, int boxes) {
            return riggingOf(i) == roomLeft(lengthOf(i), boxes);
        }

        private int longestTight(int boxes) {
            int found = NONE;
            for (int i = 0; i < size && i < BOXES; i++) {
                if (isTight(i, boxes) && (found == NONE || lengths[i] > lengthOf(found))) {
                    found = i;
                }
            }
            return found;
        }

        private int shortestTight(int boxes) {
            int found = NONE;
            for (int i = 0; i < size && i < BOXES; i++) {
                if (isTight(i, boxes) && (found == NONE || lengths[i] < lengthOf(found))) {
                    found = i;
                }
            }
            return found;
        }

        private int addString() {
            if (size >= BOXES) {
                return NONE;
            }
            lengths[size] = 0;
            size++;
            return size - 1;
        }

        private void removeString(int i) {
            swap(i, size - 1);
            size--;
        }

        private boolean isBehind(int i, int j) {
            if (lengthOf(i) != lengthOf(j)) {
                return lengthOf(i) < lengthOf(j);
            }
            return riggingOf(i) < riggingOf(j);
        }

        private void swap(int i, int j) {
            if (!isString(i) || !isString(j)) {
                return;
            }
            int length = lengths[i];
            int rigging = riggings[i];
            lengths[i] = lengths[j];
            riggings[i] = riggings[j];
            lengths[j] = length;
            riggings[j] = rigging;
        }
    }

    /** A ring of boxes as bits, box 0 lowest. */
    private static final class Ring {
        private int size = 1;
        private long bits;
        private long made;
        private int carrierHas;

        void become(int boxes, long balls) {
            size = boxes;
            bits = balls;
        }

        boolean isRingBox(int box) {
            return box >= 0 && box < size;
        }

        int ballAt(int box) {
            return (int) (bits >>> box) & 1;
        }

        /** Answers with how many balls the carrier began the second round. */
        int turnBy(int room) {
            goRound(room, 0);
            int began = carrierHas;
            // A second round that begins empty would make what the first one has made.
            if (began != 0) {
                goRound(room, began);
            }
            bits = made;
            return began;
        }

        private void goRound(int room, int began) {
            int has = began;
            long then = 0;
            for (int box = 0; box < size; box++) {
                int ball = ballAt(box);
                int behind = loadBehind(has, ball, room);
                then |= (long) (ball + has - behind) << box;
                has = behind;
            }
            made = then;
            carrierHas = has;
        }
    }

    /** A ring of its own that is turned to find periods, while the object's ring stays. */
    private static final class RingTrial {
        private final Ring ring = new Ring();
        private final long[] seen = new long[1 << (MOST_ALL_RINGS_BOXES - 6)];

        int periodOf(Ring start, int room) {
            ring.become(start.size, start.bits);
            for (int turns = 1; turns <= MOST_TURNS; turns++) {
                ring.turnBy(room);
                if (ring.bits == start.bits) {
                    return turns;
                }
            }
            return SPENT;
        }

        int countAll(int n, int m) {
            int all = 0;
            for (int balls = 0; balls < 1 << n; balls++) {
                if (Integer.bitCount(balls) == m) {
                    all++;
                }
            }
            return all;
        }

        /**
         * A turn of a ring with fewer balls than half its boxes can be undone, so the rings that
         * one is turned through till it is as it was all have its period, and are gone through
         * only once.
         */
        int countWithPeriod(int n, int m, int room, int period) {
            forget();
            int counted = 0;
            for (int balls = 0; balls < 1 << n; balls++) {
                if (Integer.bitCount(balls) == m && !isSeen(balls)) {
                    int turns = goThrough(n, balls, room);
                    if (turns == period) {
                        counted += turns;
                    }
                }
            }
            return counted;
        }

        private int goThrough(int n, int balls, int room) {
            ring.become(n, balls);
            for (int turns = 1; turns <= MOST_TURNS; turns++) {
                ring.turnBy(room);
                see((int) ring.bits);
                if (ring.bits == balls) {
                    return turns;
                }
            }
            return SPENT;
        }

        private void forget() {
            for (int k = 0; k < seen.length; k++) {
                seen[k] = 0;
            }
        }

        private boolean isSeen(int balls) {
            int k = balls >>> 6;
            return k < seen.length && (seen[k] >>> (balls & 63) & 1) != 0;
        }

        private void see(int balls) {
            int k = balls >>> 6;
            if (k < seen.length) {
                seen[k] |= 1L << (balls & 63);
            }
        }
    }

    /** A sheet, which keeps its items as ints cut to what its form has bits for. */
    private static final class Sheet {
        private final int[] items = new int[MOST_ITEMS];
        private boolean lost = true;
        private int form;
        private int size;

        void begin(int newForm, int n) {
            lost = false;
            form = newForm;
            size = n;
            for (int i = 0; i < MOST_ITEMS; i++) {
                items[i] = 0;
            }
        }

        /** The first finding that fits item i of a form, or none. */
        int findingAt(int asForm, int i) {
            if (lost) {
                return NULL;
            }
            if (form != asForm) {
                return CAST;
            }
            return isItem(i) ? NO_FINDING : INDEX;
        }

        /** Written so that no sum of two far numbers can wrap. */
        boolean hasItems(int from, int n) {
            return from >= 0 && n >= 0 && from <= size && n <= size - from;
        }

        int itemAt(int i) {
            return isItem(i) ? items[i] : 0;
        }

        void place(int i, int v) {
            if (isItem(i)) {
                items[i] = cut(v);
            }
        }

        private boolean isItem(int i) {
            return i >= 0 && i < size && i < MOST_ITEMS;
        }

        private int cut(int v) {
            if (form == BYTES) {
                return (byte) v;
            }
            return form == SHORTS ? (short) v : v;
        }
    }
}
