/** Loaves shared among workers by parts of one, no two alike in one hand. */
public final class LoafParts {
    public static final int BAD = -1, FULL = -2, FINDING = -3, STATE = -4, SPENT = -6, NONE = -9;

    private static final int NOTHING = 1, BEYOND = 2, UNLIKE = 3, NOUGHT = 4, SIZE = 5;
    private static final int ROWS = 6, ROW_PLACES = 40, TEXTS = 4, TEXT_PLACES = 60;
    private static final int BLANK = 32, BYTE_LIFT = 1000;
    private static final int TABLES_KEPT = 3, COUNTS = 12, WORKER_FACTS = 6;
    private static final int MOST_WORKERS = 7, MOST_LOAVES = 99, MOST_BAKED = 9, MOST_DEEDS = 40;
    private static final int MOST_TURNS = 4, MOST_LOTS = 20, CRUMBLES = 12, MOST_DUE = 9;
    private static final int FIRST_PART = 2, LAST_PART = 16, PLACES_BY_PART = 17;
    /** The least number that 1 to 16 all divide, so that every PART and every DUE is a whole number of its parts. */
    private static final int LOAF = 720720;
    private static final int LOT_FACTOR = 48271, LOT_MODULUS = 2147483647;

    private final Shelf rows;
    private final Shelf texts;
    private final Reader reader;
    private final Table table;
    /** A TABLE without WORKERS here is a missing one. */
    private final Table[] kept;
    private final Makeup makeup;
    private final int[] wanted;
    private final int[] findingCounts;
    private int latestFinding;
    private int told;
    private long toldUpper;
    private long toldLower;

    public LoafParts() {
        rows = new Shelf(ROWS, ROW_PLACES);
        texts = new Shelf(TEXTS, TEXT_PLACES);
        reader = new Reader();
        table = new Table();
        kept = new Table[TABLES_KEPT];
        for (int k = 0; k < TABLES_KEPT; k++) {
            kept[k] = new Table();
        }
        makeup = new Makeup();
        wanted = new int[PLACES_BY_PART];
        findingCounts = new int[SIZE + 1];
        toldLower = 1;
    }

    // ---- 1 rows, texts, tables

    public int row(int r, int n) {
        if (!rows.isNumber(r) || n > ROW_PLACES) {
            return BAD;
        }
        if (n < 0) {
            return found(SIZE);
        }
        rows.make(r, n, 0);
        return n;
    }

    public int lay(int r, int i, int v) {
        int refusal = refusePlace(rows, r, i);
        if (refusal != 0) {
            return refusal;
        }
        told = rows.read(r, i);
        rows.write(r, i, v);
        return 1;
    }

    public int at(int r, int i) {
        int refusal = refusePlace(rows, r, i);
        if (refusal != 0) {
            return refusal;
        }
        told = rows.read(r, i);
        return 1;
    }

    public int tear(int r) {
        int refusal = refuseMissing(rows, r);
        if (refusal != 0) {
            return refusal;
        }
        rows.drop(r);
        return 1;
    }

    public int copy(int r, int i, int to, int j, int n) {
        if (!rows.isNumber(r) || !rows.isNumber(to)) {
            return BAD;
        }
        if (n < 0) {
            return found(SIZE);
        }
        if (!rows.isThere(r) || !rows.isThere(to)) {
            return found(NOTHING);
        }
        if (!rows.hasStretch(r, i, n) || !rows.hasStretch(to, j, n)) {
            return found(BEYOND);
        }
        rows.move(r, i, to, j, n);
        return 1;
    }

    public int mean(int r) {
        int refusal = refuseMissing(rows, r);
        if (refusal != 0) {
            return refusal;
        }
        int size = rows.sizeOf(r);
        if (size <= 0) {
            return found(NOUGHT);
        }
        long sum = 0;
        for (int i = 0; i < size; i++) {
            sum += rows.read(r, i);
        }
        told = (int) (sum / size);
        return 1;
    }

    public int text(int t, int n) {
        if (!texts.isNumber(t) || n > TEXT_PLACES) {
            return BAD;
        }
        if (n < 0) {
            return found(SIZE);
        }
        texts.make(t, n, BLANK);
        return n;
    }

    public int put(int t, int i, int v) {
        int refusal = refusePlace(texts, t, i);
        if (refusal != 0) {
            return refusal;
        }
        int before = texts.read(t, i);
        texts.write(t, i, (byte) v);
        return before + BYTE_LIFT;
    }

    public int fault(int t) {
        int refusal = refuseMissing(texts, t);
        return refusal != 0 ? refusal : reader.readTable(texts, t);
    }

    public int table(int t) {
        int refusal = refuseMissing(texts, t);
        if (refusal != 0) {
            return refusal;
        }
        if (reader.readTable(texts, t) != NONE) {
            return STATE;
        }
        table.begin(reader);
        for (int k = 0; k < TABLES_KEPT; k++) {
            kept[k].clear();
        }
        return table.workers;
    }

    public int worker(int i, int what) {
        if (!table.isWorker(i) || what < 0 || what >= WORKER_FACTS) {
            return BAD;
        }
        told = table.factOf(i, what);
        return 1;
    }

    public int mark(int i, int kind) {
        if (!table.isWorker(i) || kind <= Kinds.WORKER || kind >= Kinds.COUNT) {
            return BAD;
        }
        int own = table.kind[i];
        if (!Kinds.isOf(own, kind)) {
            return found(UNLIKE);
        }
        int parts = Kinds.partsOf(own);
        switch (kind) {
            case Kinds.EYE:
                return Integer.bitCount(parts);
            case Kinds.ODD:
                return Integer.bitCount(table.lyingSet & parts);
            case Kinds.SHY:
                return Integer.bitCount(table.lyingSet & ~parts);
            case Kinds.SCRIBE:
                return Integer.bitCount(parts) - Integer.bitCount(Kinds.EYE_PARTS);
            default:
                return Integer.bitCount(Kinds.SHY_PARTS) - Integer.bitCount(parts);
        }
    }

    public int takes(int i, int d) {
        if (!table.isWorker(i) || !isPart(d)) {
            return BAD;
        }
        return holds(Kinds.partsOf(table.kind[i]), d) ? 1 : 0;
    }

    // ---- 2 deeds

    public int cut(int d) {
        if (!isPart(d)) {
            return BAD;
        }
        if (!table.canCut()) {
            return STATE;
        }
        if (!table.hasRoomFor(1)) {
            return FULL;
        }
        table.cutLoaf(d);
        return table.lying[d];
    }

    public int give(int i, int d) {
        if (!table.isWorker(i) || !isPart(d)) {
            return BAD;
        }
        if (!table.canGive(i, d)) {
            return STATE;
        }
        if (!table.hasRoomFor(1)) {
            return FULL;
        }
        table.givePart(i, d);
        return Integer.bitCount(table.has[i]);
    }

    public int back(int i, int d) {
        if (!table.isWorker(i) || !isPart(d)) {
            return BAD;
        }
        if (!table.canTakeBack(i, d)) {
            return STATE;
        }
        if (!table.hasRoomFor(1)) {
            return FULL;
        }
        table.takeBack(i, d);
        return Integer.bitCount(table.has[i]);
    }

    public int bake(int n) {
        if (n < 1 || n > MOST_BAKED) {
            return BAD;
        }
        if (!table.canBake()) {
            return STATE;
        }
        if (!table.hasRoomFor(1)) {
            return FULL;
        }
        table.bakeLoaves(n);
        return table.loaves;
    }

    public int undo(int n) {
        if (n < 0 || n > table.deeds) {
            return BAD;
        }
        int undone = table.deeds - n;
        table.undoFrom(n);
        return undone;
    }

    public int keep(int k) {
        if (k < 0 || k >= TABLES_KEPT) {
            return BAD;
        }
        if (table.workers == 0) {
            return STATE;
        }
        kept[k].becomeLike(table);
        return table.deeds;
    }

    public int on(int k) {
        if (k < 0 || k >= TABLES_KEPT) {
            return BAD;
        }
        if (kept[k].workers == 0) {
            return found(NOTHING);
        }
        table.becomeLike(kept[k]);
        return table.deeds;
    }

    // ---- 3 what one lacks (aside)

    public int lacks(int i) {
        if (!table.isWorker(i)) {
            return BAD;
        }
        tellFraction(table.lack[i], LOAF);
        return 1;
    }

    public int ways(int i) {
        if (!table.isWorker(i)) {
            return BAD;
        }
        makeup.lookFor(table.lack[i], table.openTo(i));
        if (makeup.sets == 0) {
            return NONE;
        }
        told = makeup.most;
        return makeup.sets;
    }

    public int writes(int i, int r) {
        if (!table.isWorker(i) || !rows.isNumber(r)) {
            return BAD;
        }
        makeup.lookFor(table.lack[i], table.openTo(i));
        if (makeup.sets == 0) {
            return NONE;
        }
        rows.make(r, makeup.fewest, 0);
        int place = 0;
        for (int d = FIRST_PART; d <= LAST_PART; d++) {
            if (holds(makeup.fewestSet, d)) {
                rows.write(r, place, d);
                place++;
            }
        }
        return makeup.fewest;
    }

    public int greedy(int i) {
        if (!table.isWorker(i)) {
            return BAD;
        }
        int open = table.openTo(i);
        int rest = table.lack[i];
        int parts = 0;
        int last = 0;
        // One pass is enough: a PART too great for the rest stays too great for less.
        for (int d = FIRST_PART; d <= LAST_PART; d++) {
            if (holds(open, d) && LOAF / d <= rest) {
                rest -= LOAF / d;
                parts++;
                last = d;
            }
        }
        if (rest != 0) {
            return NONE;
        }
        told = last;
        return parts;
    }

    public int serve(int i) {
        if (!table.isWorker(i)) {
            return BAD;
        }
        makeup.lookFor(table.lack[i], table.openTo(i) & table.lyingSet);
        if (makeup.sets == 0) {
            return NONE;
        }
        told = makeup.fewest;
        return makeup.fewestSet;
    }

    // ---- 4 all (aside)

    public int need() {
        if (table.workers == 0) {
            return STATE;
        }
        told = countWanted();
        int loaves = 0;
        for (int d = FIRST_PART; d <= LAST_PART; d++) {
            int missing = wanted[d] - table.lying[d];
            if (missing > 0) {
                loaves += (missing + d - 1) / d;
            }
        }
        return loaves;
    }

    public int poor() {
        if (table.workers == 0) {
            return STATE;
        }
        int poorest = 0;
        for (int i = 1; i < table.workers; i++) {
            if (table.lack[i] > table.lack[poorest]) {
                poorest = i;
            }
        }
        tellFraction(table.lack[poorest], LOAF);
        return poorest;
    }

    public int ready() {
        if (table.workers == 0) {
            return STATE;
        }
        int set = payableBy(table.lyingSet);
        told = Integer.bitCount(set);
        return set;
    }

    public int best() {
        if (!table.canCut()) {
            return STATE;
        }
        int most = Integer.bitCount(payableBy(table.lyingSet));
        int bestPart = NONE;
        for (int d = FIRST_PART; d <= LAST_PART; d++) {
            int payable = Integer.bitCount(payableBy(table.lyingSet | 1 << d));
            if (payable > most) {
                most = payable;
                bestPart = d;
            }
        }
        if (bestPart != NONE) {
            told = most;
        }
        return bestPart;
    }

    // ---- 5 what was due, who it was

    public int dues(int r) {
        int refusal = refuseMissing(rows, r);
        if (refusal != 0) {
            return refusal;
        }
        if (!isSetOfParts(r)) {
            return found(UNLIKE);
        }
        int sum = 0;
        for (int i = 0; i < rows.sizeOf(r); i++) {
            sum += partSize(rows.read(r, i));
        }
        int fractions = 0;
        int first = 0;
        for (int a = 1; a <= MOST_DUE; a++) {
            for (int b = 1; b <= MOST_DUE; b++) {
                if (LOAF / b * a == sum) {
                    first = fractions == 0 ? 10 * a + b : first;
                    fractions++;
                }
            }
        }
        if (fractions == 0) {
            return NONE;
        }
        told = first;
        return fractions;
    }

    public int kinds(int r) {
        int refusal = refusePairs(r);
        return refusal != 0 ? refusal : kindsByPairs(r);
    }

    public int test(int r) {
        int refusal = refusePairs(r);
        if (refusal != 0) {
            return refusal;
        }
        int set = kindsByPairs(r);
        if (set == 0) {
            return NONE;
        }
        int all = Integer.bitCount(set);
        int least = all + 1;
        int bestPart = FIRST_PART;
        for (int d = FIRST_PART; d <= LAST_PART; d++) {
            int takers = Integer.bitCount(Kinds.answeringAlike(set, d, true));
            int greater = Math.max(takers, all - takers);
            if (greater < least) {
                least = greater;
                bestPart = d;
            }
        }
        told = least;
        return bestPart;
    }

    // ---- 6 by turns

    public int duel(int i, int j, int n) {
        if (!table.isWorker(i) || !table.isWorker(j) || i == j || n < 0 || n > MOST_TURNS) {
            return BAD;
        }
        int ahead = table.sizeOfHad(i) - table.sizeOfHad(j);
        ahead += table.gainByTurns(i, j, n);
        return Math.floorDiv(ahead, 1000) + 5000;
    }

    // ---- 7 chances, lots

    public int odds(int i, int p) {
        if (!table.isWorker(i) || p < 0 || p > CRUMBLES) {
            return BAD;
        }
        int has = table.has[i];
        long enough = enoughLeft(FIRST_PART, has, table.dueOf(i), 2 * table.sizeOfHad(i), p);
        tellFraction(enough, powerOfCrumbles(Integer.bitCount(has)));
        return 1;
    }

    public int mid(int i, int p) {
        if (!table.isWorker(i) || p < 0 || p > CRUMBLES) {
            return BAD;
        }
        tellFraction((long) table.sizeOfHad(i) * (CRUMBLES - p), (long) LOAF * CRUMBLES);
        return 1;
    }

    public int lots(int n, int seed) {
        if (n < 1 || n > MOST_LOTS || seed < 1 || seed >= LOT_MODULUS) {
            return BAD;
        }
        if (table.workers == 0) {
            return STATE;
        }
        if (!table.hasRoomFor(n)) {
            return FULL;
        }
        long lot = seed;
        for (int k = 0; k < n; k++) {
            lot = lot * LOT_FACTOR % LOT_MODULUS;
            table.deedByLot((int) lot);
        }
        return table.lyingInAll();
    }

    // ---- 8 what is told

    public int asked() {
        return told;
    }

    public long upper() {
        return toldUpper;
    }

    public long lower() {
        return toldLower;
    }

    public int count(int what) {
        switch (what) {
            case 0:
                return table.workers;
            case 1:
                return table.loaves;
            case 2:
                return table.deeds;
            case 3:
                return table.lyingInAll();
            case 4:
                return table.hadInAll();
            case 5:
                return table.paidSet();
            case 6:
                return table.lyingSet;
            case 7:
                return rows.howMany();
            case 8:
                return texts.howMany();
            case 9:
                return keptTables();
            case 10:
                return table.howManyOf(Kinds.EYE);
            case 11:
                return table.howManyOf(Kinds.SHY);
            default:
                return BAD;
        }
    }

    public int finding() {
        return latestFinding;
    }

    public int findings(int f) {
        return f < NOTHING || f > SIZE ? BAD : findingCounts[f];
    }

    public long digest() {
        long h = 17;
        for (int what = 0; what < COUNTS; what++) {
            h = 31 * h + count(what);
        }
        for (int i = 0; i < table.workers; i++) {
            for (int what = 0; what < WORKER_FACTS; what++) {
                h = 31 * h + table.factOf(i, what);
            }
        }
        for (int d = FIRST_PART; d <= LAST_PART; d++) {
            h = 31 * h + table.lying[d];
        }
        for (int k = 0; k < TABLES_KEPT; k++) {
            h = 31 * h + (kept[k].workers == 0 ? -1 : kept[k].deeds);
        }
        return texts.addTo(rows.addTo(h));
    }

    // ---- helpers of the face

    private int found(int finding) {
        latestFinding = finding;
        findingCounts[finding]++;
        return FINDING;
    }

    /** 0: nothing is to be refused. */
    private int refuseMissing(Shelf shelf, int r) {
        if (!shelf.isNumber(r)) {
            return BAD;
        }
        return shelf.isThere(r) ? 0 : found(NOTHING);
    }

    /** 0: nothing is to be refused. */
    private int refusePlace(Shelf shelf, int r, int i) {
        int refusal = refuseMissing(shelf, r);
        if (refusal != 0) {
            return refusal;
        }
        return shelf.hasPlace(r, i) ? 0 : found(BEYOND);
    }

    /** 0: nothing is to be refused. */
    private int refusePairs(int r) {
        int refusal = refuseMissing(rows, r);
        if (refusal != 0) {
            return refusal;
        }
        int size = rows.sizeOf(r);
        if (size % 2 != 0) {
            return found(SIZE);
        }
        for (int i = 0; i < size; i += 2) {
            int answer = rows.read(r, i + 1);
            if (!isPart(rows.read(r, i)) || answer < 0 || answer > 1) {
                return found(UNLIKE);
            }
        }
        return 0;
    }

    private int kindsByPairs(int r) {
        int set = Kinds.ALL;
        for (int i = 0; i < rows.sizeOf(r); i += 2) {
            set = Kinds.answeringAlike(set, rows.read(r, i), rows.read(r, i + 1) == 1);
        }
        return set;
    }

    private boolean isSetOfParts(int r) {
        int seen = 0;
        for (int i = 0; i < rows.sizeOf(r); i++) {
            int d = rows.read(r, i);
            if (!isPart(d) || holds(seen, d)) {
                return false;
            }
            seen |= 1 << d;
        }
        return true;
    }

    private void tellFraction(long upper, long lower) {
        long divisor = greatestDivisor(upper, lower);
        if (divisor > 0) {
            toldUpper = upper / divisor;
            toldLower = lower / divisor;
        }
    }

    /** Sums up in wanted how many of each PART the sets of fewest have; answers how many WORKERS have one. */
    private int countWanted() {
        for (int d = 0; d < wanted.length; d++) {
            wanted[d] = 0;
        }
        int able = 0;
        for (int i = 0; i < table.workers; i++) {
            makeup.lookFor(table.lack[i], table.openTo(i));
            if (makeup.sets > 0) {
                able++;
                for (int d = FIRST_PART; d <= LAST_PART; d++) {
                    wanted[d] += holds(makeup.fewestSet, d) ? 1 : 0;
                }
            }
        }
        return able;
    }

    private int payableBy(int parts) {
        int set = 0;
        for (int i = 0; i < table.workers; i++) {
            makeup.lookFor(table.lack[i], table.openTo(i) & parts);
            set |= makeup.sets > 0 ? 1 << i : 0;
        }
        return set;
    }

    private int keptTables() {
        int tables = 0;
        for (int k = 0; k < TABLES_KEPT; k++) {
            tables += kept[k].workers > 0 ? 1 : 0;
        }
        return tables;
    }

    private static boolean isPart(int d) {
        return d >= FIRST_PART && d <= LAST_PART;
    }

    private static int partSize(int d) {
        return d > 0 ? LOAF / d : 0;
    }

    private static boolean holds(int set, int member) {
        return (set >> member & 1) != 0;
    }

    private static long greatestDivisor(long upper, long lower) {
        long a = upper;
        long b = lower;
        // A remainder at least halves in two steps, so that 200 steps are more than any long needs.
        for (int step = 0; step < 200 && b != 0; step++) {
            long rest = a % b;
            a = b;
            b = rest;
        }
        return a;
    }

    private static long powerOfCrumbles(int n) {
        long power = 1;
        for (int k = 0; k < n; k++) {
            power *= CRUMBLES;
        }
        return power;
    }

    /**
     * Of the equally likely crumblings (CRUMBLES a PART) of the PARTS from d on, how many leave due or more;
     * what is left is measured twice over, so that half of what is DUE needs no halving.
     */
    private static long enoughLeft(int d, int parts, int due, int left, int p) {
        if (due <= 0) {
            return powerOfCrumbles(Integer.bitCount(parts));
        }
        if (d > LAST_PART || left < due) {
            return 0;
        }
        if (!holds(parts, d)) {
            return enoughLeft(d + 1, parts, due, left, p);
        }
        int size = 2 * partSize(d);
        int others = parts & ~(1 << d);
        return p * enoughLeft(d + 1, others, due, left - size, p)
                + (CRUMBLES - p) * enoughLeft(d + 1, others, due - size, left - size, p);
    }

    /** Rows of numbers, of one greatest size, each there or missing. */
    private static final class Shelf {
        private static final int MISSING = -1;

        private final int places;
        private final int[] sizes;
        private final int[] cells;

        Shelf(int howMany, int places) {
            this.places = Math.max(places, 0);
            sizes = new int[Math.max(howMany, 0)];
            cells = new int[sizes.length * this.places];
            for (int r = 0; r < sizes.length; r++) {
                sizes[r] = MISSING;
            }
        }

        boolean isNumber(int r) {
            return r >= 0 && r < sizes.length;
        }

        int sizeOf(int r) {
            return isNumber(r) ? sizes[r] : MISSING;
        }

        boolean isThere(int r) {
            return sizeOf(r) != MISSING;
        }

        boolean hasPlace(int r, int i) {
            return isNumber(r) && i >= 0 && i < sizes[r];
        }

        boolean hasStretch(int r, int i, int n) {
            return i >= 0 && n >= 0 && (long) i + n <= sizeOf(r);
        }

        void make(int r, int n, int fill) {
            if (!isNumber(r) || n < 0 || n > places) {
                return;
            }
            sizes[r] = n;
            for (int i = 0; i < n; i++) {
                cells[r * places + i] = fill;
            }
        }

        void drop(int r) {
            if (isNumber(r)) {
                sizes[r] = MISSING;
            }
        }

        int read(int r, int i) {
            return hasPlace(r, i) ? cells[r * places + i] : 0;
        }

        void write(int r, int i, int v) {
            if (hasPlace(r, i)) {
                cells[r * places + i] = v;
            }
        }

        void move(int r, int i, int to, int j, int n) {
            if (hasStretch(r, i, n) && hasStretch(to, j, n)) {
                System.arraycopy(cells, r * places + i, cells, to * places + j, n);
            }
        }

        int howMany() {
            int there = 0;
            for (int r = 0; r < sizes.length; r++) {
                there += isThere(r) ? 1 : 0;
            }
            return there;
        }

        long addTo(long digest) {
            long h = digest;
            for (int r = 0; r < sizes.length; r++) {
                h = 31 * h + sizes[r];
                for (int i = 0; i < sizes[r]; i++) {
                    h = 31 * h + read(r, i);
                }
            }
            return h;
        }
    }

    /** The KINDS, by number: which is one of which, its letter, the PARTS it TAKES. */
    private static final class Kinds {
        static final int WORKER = 0, EYE = 1, ODD = 2, SHY = 3, SCRIBE = 4, MASTER = 5;
        static final int COUNT = 6, ALL = (1 << COUNT) - 1;
        static final int EYE_PARTS = 1 << 2 | 1 << 4 | 1 << 8 | 1 << 16;
        static final int SHY_PARTS = (1 << 17) - (1 << 4);
        private static final int ALL_PARTS = (1 << 17) - (1 << 2);
        private static final int ODD_PARTS = 1 << 3 | 1 << 5 | 1 << 7 | 1 << 9 | 1 << 11 | 1 << 13 | 1 << 15;
        private static final int SCRIBE_PARTS = EYE_PARTS | 1 << 3 | 1 << 6 | 1 << 12;
        private static final int MASTER_PARTS = SHY_PARTS & ~ODD_PARTS;

        private Kinds() {
        }

        static int partsOf(int kind) {
            switch (kind) {
                case EYE:
                    return EYE_PARTS;
                case ODD:
                    return ODD_PARTS;
                case SHY:
                    return SHY_PARTS;
                case SCRIBE:
                    return SCRIBE_PARTS;
                case MASTER:
                    return MASTER_PARTS;
                default:
                    return ALL_PARTS;
            }
        }

        static int byLetter(int letter) {
            switch (letter) {
                case 'w':
                    return WORKER;
                case 'e':
                    return EYE;
                case 'o':
                    return ODD;
                case 's':
                    return SHY;
                case 'c':
                    return SCRIBE;
                case 'm':
                    return MASTER;
                default:
                    return NONE;
            }
        }

        static boolean isOf(int kind, int wanted) {
            return kind == wanted || wanted == WORKER
                    || kind == SCRIBE && wanted == EYE
                    || kind == MASTER && wanted == SHY;
        }

        /** Those of a set of KINDS that TAKE a PART, or those that do not. */
        static int answeringAlike(int set, int d, boolean taken) {
            int alike = 0;
            for (int kind = 0; kind < COUNT; kind++) {
                if (holds(set, kind) && holds(partsOf(kind), d) == taken) {
                    alike |= 1 << kind;
                }
            }
            return alike;
        }
    }

    /** Reads the small language of a TABLE. */
    private static final class Reader {
        private final int[] kind = new int[MOST_WORKERS];
        private final int[] over = new int[MOST_WORKERS];
        private final int[] under = new int[MOST_WORKERS];
        private int loaves;
        private int workers;

        /** The place of the FAULT, or NONE. */
        int readTable(Shelf texts, int t) {
            int size = texts.sizeOf(t);
            workers = 0;
            int i = pastBlanks(texts, t, 0);
            int tens = figure(texts, t, i, 0);
            if (tens == NONE) {
                return i;
            }
            int ones = figure(texts, t, i + 1, 0);
            if (ones == NONE) {
                return i + 1;
            }
            loaves = 10 * tens + ones;
            i = pastBlanks(texts, t, i + 2);
            for (int w = 0; w < MOST_WORKERS && i < size; w++) {
                int fault = readWorker(texts, t, i);
                if (fault != NONE) {
                    return fault;
                }
                i = pastBlanks(texts, t, i + 3);
            }
            if (i < size) {
                return i;
            }
            return workers < 2 ? size : NONE;
        }

        private int readWorker(Shelf texts, int t, int i) {
            int itsKind = Kinds.byLetter(texts.read(t, i));
            if (itsKind == NONE || workers >= MOST_WORKERS) {
                return i;
            }
            int a = figure(texts, t, i + 1, 1);
            if (a == NONE) {
                return i + 1;
            }
            int b = figure(texts, t, i + 2, 1);
            if (b == NONE) {
                return i + 2;
            }
            kind[workers] = itsKind;
            over[workers] = a;
            under[workers] = b;
            workers++;
            return NONE;
        }

        private static int pastBlanks(Shelf texts, int t, int from) {
            int i = from;
            while (i < texts.sizeOf(t) && texts.read(t, i) == BLANK) {
                i++;
            }
            return i;
        }

        private static int figure(Shelf texts, int t, int i, int least) {
            int value = texts.read(t, i) - '0';
            return value >= least && value <= 9 ? value : NONE;
        }
    }

    /** WORKERS, LOAVES, what lies on THE TABLE, what each one has, and the DEEDS that led there. */
    private static final class Table {
        private static final int IDLE = 0, CUT = 1, GIVEN = 2, BACK = 3, BAKED = 4;

        private int workers;
        private int loaves;
        private int deeds;
        /** How many PARTS of each d lie on THE TABLE, and of which d there are any. */
        private final int[] lying = new int[PLACES_BY_PART];
        private int lyingSet;
        private final int[] kind = new int[MOST_WORKERS];
        private final int[] over = new int[MOST_WORKERS];
        private final int[] under = new int[MOST_WORKERS];
        private final int[] has = new int[MOST_WORKERS];
        private final int[] lack = new int[MOST_WORKERS];
        private final int[] deedKind = new int[MOST_DEEDS];
        private final int[] deedWho = new int[MOST_DEEDS];
        /** The d of a PART; of what was BAKED how many LOAVES were not lost, so that it can be undone. */
        private final int[] deedSize = new int[MOST_DEEDS];

        void clear() {
            workers = 0;
            loaves = 0;
            deeds = 0;
            lyingSet = 0;
            for (int d = 0; d < PLACES_BY_PART; d++) {
                lying[d] = 0;
            }
        }

        void begin(Reader read) {
            clear();
            workers = read.workers;
            loaves = read.loaves;
            for (int i = 0; i < workers; i++) {
                kind[i] = read.kind[i];
                over[i] = read.over[i];
                under[i] = read.under[i];
                has[i] = 0;
                lack[i] = dueOf(i);
            }
        }

        void becomeLike(Table other) {
            workers = other.workers;
            loaves = other.loaves;
            deeds = other.deeds;
            lyingSet = other.lyingSet;
            System.arraycopy(other.lying, 0, lying, 0, PLACES_BY_PART);
            System.arraycopy(other.kind, 0, kind, 0, MOST_WORKERS);
            System.arraycopy(other.over, 0, over, 0, MOST_WORKERS);
            System.arraycopy(other.under, 0, under, 0, MOST_WORKERS);
            System.arraycopy(other.has, 0, has, 0, MOST_WORKERS);
            System.arraycopy(other.lack, 0, lack, 0, MOST_WORKERS);
            System.arraycopy(other.deedKind, 0, deedKind, 0, MOST_DEEDS);
            System.arraycopy(other.deedWho, 0, deedWho, 0, MOST_DEEDS);
            System.arraycopy(other.deedSize, 0, deedSize, 0, MOST_DEEDS);
        }

        boolean isWorker(int i) {
            return i >= 0 && i < workers;
        }

        boolean hasRoomFor(int n) {
            return deeds + n <= MOST_DEEDS;
        }

        int dueOf(int i) {
            return under[i] > 0 ? LOAF / under[i] * over[i] : 0;
        }

        int sizeOfHad(int i) {
            return dueOf(i) - lack[i];
        }

        /** The PARTS that one TAKES and has none of. */
        int openTo(int i) {
            return Kinds.partsOf(kind[i]) & ~has[i];
        }

        /** The PARTS on THE TABLE that are FIT for one. */
        int fitFor(int i) {
            return openTo(i) & lyingSet & noGreaterThan(lack[i]);
        }

        private static int noGreaterThan(int rest) {
            if (rest <= 0) {
                return 0;
            }
            int greatest = Math.max((LOAF + rest - 1) / rest, FIRST_PART);
            return greatest > LAST_PART ? 0 : (1 << PLACES_BY_PART) - (1 << greatest);
        }

        int factOf(int i, int what) {
            switch (what) {
                case 0:
                    return kind[i];
                case 1:
                    return over[i];
                case 2:
                    return under[i];
                case 3:
                    return has[i];
                case 4:
                    return fitFor(i);
                default:
                    return lack[i] == 0 ? 1 : 0;
            }
        }

        int lyingInAll() {
            int parts = 0;
            for (int d = FIRST_PART; d <= LAST_PART; d++) {
                parts += lying[d];
            }
            return parts;
        }

        int hadInAll() {
            int parts = 0;
            for (int i = 0; i < workers; i++) {
                parts += Integer.bitCount(has[i]);
            }
            return parts;
        }

        int paidSet() {
            int set = 0;
            for (int i = 0; i < workers; i++) {
                set |= lack[i] == 0 ? 1 << i : 0;
            }
            return set;
        }

        int howManyOf(int wanted) {
            int some = 0;
            for (int i = 0; i < workers; i++) {
                some += Kinds.isOf(kind[i], wanted) ? 1 : 0;
            }
            return some;
        }

        boolean canCut() {
            return loaves > 0;
        }

        boolean canGive(int i, int d) {
            return holds(fitFor(i), d);
        }

        boolean canTakeBack(int i, int d) {
            return holds(has[i], d);
        }

        boolean canBake() {
            return workers > 0 && loaves < MOST_LOAVES;
        }

        void cutLoaf(int d) {
            loaves--;
            changeLying(d, d);
            noteDeed(CUT, 0, d);
        }

        void givePart(int i, int d) {
            toHand(i, d);
            noteDeed(GIVEN, i, d);
        }

        void takeBack(int i, int d) {
            fromHand(i, d);
            noteDeed(BACK, i, d);
        }

        void bakeLoaves(int n) {
            int baked = Math.min(n, MOST_LOAVES - loaves);
            loaves += baked;
            noteDeed(BAKED, 0, baked);
        }

        void deedByLot(int lot) {
            if (workers == 0) {
                return;
            }
            int d = lot / 8 % 15 + FIRST_PART;
            int i = lot / 128 % workers;
            int choice = lot % 4;
            if (choice == 0 && canCut()) {
                cutLoaf(d);
            } else if (choice == 3 && canTakeBack(i, d)) {
                takeBack(i, d);
            } else if ((choice == 1 || choice == 2) && canGive(i, d)) {
                givePart(i, d);
            } else {
                noteDeed(IDLE, 0, 0);
            }
        }

        void undoFrom(int n) {
            while (deeds > n && deeds > 0) {
                deeds--;
                undoOne(deedKind[deeds], deedWho[deeds], deedSize[deeds]);
            }
        }

        private void undoOne(int what, int i, int size) {
            switch (what) {
                case CUT:
                    loaves++;
                    changeLying(size, -size);
                    break;
                case GIVEN:
                    fromHand(i, size);
                    break;
                case BACK:
                    toHand(i, size);
                    break;
                case BAKED:
                    loaves -= size;
                    break;
                default:
                    break;
            }
        }

        private void noteDeed(int what, int i, int size) {
            if (deeds < MOST_DEEDS) {
                deedKind[deeds] = what;
                deedWho[deeds] = i;
                deedSize[deeds] = size;
                deeds++;
            }
        }

        private void toHand(int i, int d) {
            changeLying(d, -1);
            has[i] |= 1 << d;
            lack[i] -= partSize(d);
        }

        private void fromHand(int i, int d) {
            changeLying(d, 1);
            has[i] &= ~(1 << d);
            lack[i] += partSize(d);
        }

        private void changeLying(int d, int by) {
            lying[d] += by;
            lyingSet = lying[d] > 0 ? lyingSet | 1 << d : lyingSet & ~(1 << d);
        }

        /** How much more the first gains than the second by so many turns, the first beginning. */
        int gainByTurns(int i, int j, int turns) {
            int bound = MOST_TURNS * LOAF;
            return bestGain(i, j, turns, -bound, bound);
        }

        /**
         * What is no more than low or no less than high need not be exact: whoever asks would not choose it.
         * PARTS that are picked are put back.
         */
        private int bestGain(int i, int j, int turns, int low, int high) {
            if (turns <= 0) {
                return 0;
            }
            int fit = fitFor(i);
            if (turns == 1) {
                return fit == 0 ? 0 : partSize(Integer.numberOfTrailingZeros(fit));
            }
            int best = low;
            for (int d = FIRST_PART; d <= LAST_PART && best < high; d++) {
                if (holds(fit, d)) {
                    int size = partSize(d);
                    toHand(i, d);
                    best = Math.max(best, size - bestGain(j, i, turns - 1, size - high, size - best));
                    fromHand(i, d);
                }
            }
            return best < high ? Math.max(best, -bestGain(j, i, turns - 1, -high, -best)) : best;
        }
    }

    /** Looks through the sets of PARTS, no two alike, that make up a size. */
    private static final class Makeup {
        /** Those d first that a rest tells of by itself: none but 11 makes up what 11 does not divide, and so on. */
        private static final int[] ORDER = {11, 13, 9, 7, 14, 16, 8, 5, 10, 15, 4, 12, 3, 6, 2};
        /** The greatest divisor that the sizes of the PARTS from a place of ORDER on have in common. */
        private static final int[] COMMON = {1, 11, 143, 429, 429, 3003, 6006, 12012, 12012, 12012, 60060, 60060,
            120120, 120120, 360360};

        private int parts;
        private int sets;
        private int most;
        private int fewest;
        private int fewestSet;

        void lookFor(int size, int fromParts) {
            parts = fromParts;
            sets = 0;
            most = 0;
            fewest = 0;
            fewestSet = 0;
            lookOn(0, size, 0);
        }

        private void lookOn(int place, int rest, int set) {
            if (rest == 0) {
                note(set);
                return;
            }
            if (rest < 0 || place >= ORDER.length || place >= COMMON.length) {
                return;
            }
            int common = COMMON[place];
            if (common <= 0 || rest % common != 0) {
                return;
            }
            int d = ORDER[place];
            if (holds(parts, d)) {
                lookOn(place + 1, rest - partSize(d), set | 1 << d);
            }
            lookOn(place + 1, rest, set);
        }

        private void note(int set) {
            int size = Integer.bitCount(set);
            if (sets == 0 || size < fewest || size == fewest && set < fewestSet) {
                fewest = size;
                fewestSet = set;
            }
            most = Math.max(most, size);
            sets++;
        }
    }
}
