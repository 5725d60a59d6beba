import java.math.BigInteger;
import java.util.ArrayList;
import java.util.Arrays;
import java.util.List;

/**
 * The document once more, as slowly and plainly as can be: every set is looked at, every state is kept whole, fractions
 * are big. It has no face of its own but answer(), so that a run of random calls can be put to it and to the class.
 */
final class Model {
    private static final int BAD = -1, FULL = -2, STATE = -4, NONE = -9;
    private static final int LOAF = 720720;
    private static final int[] SUMS = new int[1 << 17];
    private static final String LETTERS = "weoscm";

    static {
        for (int set = 0; set < SUMS.length; set++) {
            for (int d = 2; d <= 16; d++) {
                SUMS[set] += (set >> d & 1) != 0 ? LOAF / d : 0;
            }
        }
    }

    private static final class Worker {
        int kind;
        int a;
        int b;
        int has;

        Worker copy() {
            Worker w = new Worker();
            w.kind = kind;
            w.a = a;
            w.b = b;
            w.has = has;
            return w;
        }

        int lack() {
            return LOAF * a / b - SUMS[has];
        }

        boolean takes(int d) {
            return kindTakes(kind, d);
        }

        int open() {
            int set = 0;
            for (int d = 2; d <= 16; d++) {
                set |= takes(d) && (has >> d & 1) == 0 ? 1 << d : 0;
            }
            return set;
        }
    }

    private static final class Scene {
        int loaves;
        List<Worker> workers = new ArrayList<>();
        int[] lying = new int[17];
        /** The scenes ahead of each DEED. */
        List<Scene> before = new ArrayList<>();

        Scene copy() {
            Scene s = new Scene();
            s.loaves = loaves;
            for (Worker w : workers) {
                s.workers.add(w.copy());
            }
            s.lying = lying.clone();
            s.before = new ArrayList<>(before);
            return s;
        }

        Scene afterDeed() {
            Scene s = copy();
            s.before.add(this);
            return s;
        }

        int lyingSet() {
            int set = 0;
            for (int d = 2; d <= 16; d++) {
                set |= lying[d] > 0 ? 1 << d : 0;
            }
            return set;
        }

        boolean fit(int i, int d) {
            Worker w = workers.get(i);
            return lying[d] > 0 && w.takes(d) && (w.has >> d & 1) == 0 && w.lack() >= LOAF / d;
        }
    }

    private final int[][] rows = new int[6][];
    private final byte[][] texts = new byte[4][];
    private final Scene[] kept = new Scene[3];
    private Scene now = new Scene();
    private int told;
    private BigInteger up = BigInteger.ZERO;
    private BigInteger low = BigInteger.ONE;
    private int latest;
    private final int[] often = new int[6];

    static boolean kindTakes(int kind, int d) {
        switch (kind) {
            case 0: return true;
            case 1: return d == 2 || d == 4 || d == 8 || d == 16;
            case 2: return d % 2 == 1;
            case 3: return d >= 4;
            case 4: return kindTakes(1, d) || d == 3 || d == 6 || d == 12;
            default: return d >= 4 && d % 2 == 0;
        }
    }

    long answer(String call, int[] p) {
        switch (call) {
            case "row": case "lay": case "at": case "tear": case "copy": case "mean": return onRows(call, p);
            case "text": case "put": case "fault": case "table": return onTexts(call, p);
            case "worker": case "mark": case "takes": return onWorkers(call, p);
            case "cut": case "give": case "back": case "bake": return deed(call, p);
            case "undo": case "keep": case "on": case "lots": return onScenes(call, p);
            case "lacks": case "ways": case "writes": case "greedy": case "serve": return onOne(call, p);
            case "need": case "poor": case "ready": case "best": return onAll(call);
            case "dues": case "kinds": case "test": return onGuess(call, p);
            case "duel": case "odds": case "mid": return onChance(call, p);
            case "asked": return told;
            case "upper": return up.longValueExact();
            case "lower": return low.longValueExact();
            case "count": return p[0] < 0 || p[0] > 11 ? BAD : tally(p[0]);
            case "finding": return latest;
            case "findings": return p[0] < 1 || p[0] > 5 ? BAD : often[p[0]];
            case "digest": return digest();
            default: throw new IllegalStateException(call);
        }
    }

    private int found(int f) {
        latest = f;
        often[f]++;
        return -3;
    }

    private int tell(int value, int answer) {
        told = value;
        return answer;
    }

    private void fraction(BigInteger a, BigInteger b) {
        BigInteger g = a.gcd(b);
        up = a.divide(g);
        low = b.divide(g);
    }

    private boolean isWorker(int i) {
        return i >= 0 && i < now.workers.size();
    }

    private long onRows(String call, int[] p) {
        int r = p[0];
        if (r < 0 || r > 5) {
            return BAD;
        }
        if (call.equals("row")) {
            if (p[1] > 40) {
                return BAD;
            }
            if (p[1] < 0) {
                return found(5);
            }
            rows[r] = new int[p[1]];
            return p[1];
        }
        if (call.equals("copy")) {
            return copyRows(r, p[1], p[2], p[3], p[4]);
        }
        if (rows[r] == null) {
            return found(1);
        }
        if (call.equals("tear")) {
            rows[r] = null;
            return 1;
        }
        if (call.equals("mean")) {
            return rows[r].length == 0 ? found(4)
                : tell((int) (Arrays.stream(rows[r]).asLongStream().sum() / rows[r].length), 1);
        }
        if (p[1] < 0 || p[1] >= rows[r].length) {
            return found(2);
        }
        tell(rows[r][p[1]], 1);
        if (call.equals("lay")) {
            rows[r][p[1]] = p[2];
        }
        return 1;
    }

    private long copyRows(int r, int i, int to, int j, int n) {
        if (to < 0 || to > 5) {
            return BAD;
        }
        if (n < 0) {
            return found(5);
        }
        if (rows[r] == null || rows[to] == null) {
            return found(1);
        }
        if (i < 0 || j < 0 || i + (long) n > rows[r].length || j + (long) n > rows[to].length) {
            return found(2);
        }
        int[] ahead = rows[r].clone();
        for (int k = 0; k < n; k++) {
            rows[to][j + k] = ahead[i + k];
        }
        return 1;
    }

    private long onTexts(String call, int[] p) {
        int t = p[0];
        if (t < 0 || t > 3) {
            return BAD;
        }
        if (call.equals("text")) {
            if (p[1] > 60) {
                return BAD;
            }
            if (p[1] < 0) {
                return found(5);
            }
            texts[t] = new byte[p[1]];
            Arrays.fill(texts[t], (byte) 32);
            return p[1];
        }
        if (texts[t] == null) {
            return found(1);
        }
        if (call.equals("put")) {
            if (p[1] < 0 || p[1] >= texts[t].length) {
                return found(2);
            }
            int was = texts[t][p[1]];
            texts[t][p[1]] = (byte) p[2];
            return 1000 + was;
        }
        Scene read = new Scene();
        int fault = read(texts[t], read);
        if (call.equals("fault")) {
            return fault;
        }
        if (fault != NONE) {
            return STATE;
        }
        now = read;
        Arrays.fill(kept, null);
        return now.workers.size();
    }

    /** A machine of states: 0 ahead, 1 the second figure, 2 a letter or blank, 3 a, 4 b. */
    private static int read(byte[] text, Scene s) {
        int state = 0;
        Worker w = null;
        for (int i = 0; i < text.length; i++) {
            int c = text[i];
            boolean blank = c == 32;
            boolean figure = c >= '0' && c <= '9';
            if (blank && (state == 0 || state == 2)) {
                continue;
            }
            if (state < 2) {
                if (!figure) {
                    return i;
                }
                s.loaves = s.loaves * 10 + c - '0';
                state++;
            } else if (state == 2) {
                if (s.workers.size() == 7 || c < 0 || LETTERS.indexOf(c) < 0) {
                    return i;
                }
                w = new Worker();
                w.kind = LETTERS.indexOf(c);
                state = 3;
            } else {
                if (!figure || c == '0') {
                    return i;
                }
                if (state == 3) {
                    w.a = c - '0';
                    state = 4;
                } else {
                    w.b = c - '0';
                    s.workers.add(w);
                    state = 2;
                }
            }
        }
        return state == 2 && s.workers.size() >= 2 ? NONE : text.length;
    }

    private int fact(int i, int what) {
        Worker w = now.workers.get(i);
        if (what == 4) {
            int set = 0;
            for (int d = 2; d <= 16; d++) {
                set |= now.fit(i, d) ? 1 << d : 0;
            }
            return set;
        }
        return new int[] {w.kind, w.a, w.b, w.has, 0, w.lack() == 0 ? 1 : 0}[what];
    }

    private long onWorkers(String call, int[] p) {
        if (!isWorker(p[0])) {
            return BAD;
        }
        Worker w = now.workers.get(p[0]);
        if (call.equals("worker")) {
            return p[1] < 0 || p[1] > 5 ? BAD : tell(fact(p[0], p[1]), 1);
        }
        if (call.equals("takes")) {
            return p[1] < 2 || p[1] > 16 ? BAD : w.takes(p[1]) ? 1 : 0;
        }
        int kind = p[1];
        if (kind < 1 || kind > 5) {
            return BAD;
        }
        if (!(w.kind == kind || w.kind == 4 && kind == 1 || w.kind == 5 && kind == 3)) {
            return found(3);
        }
        int takes = 0;
        int takesLying = 0;
        int others = 0;
        int eye = 0;
        int shy = 0;
        for (int d = 2; d <= 16; d++) {
            takes += w.takes(d) ? 1 : 0;
            takesLying += w.takes(d) && now.lying[d] > 0 ? 1 : 0;
            others += !w.takes(d) && now.lying[d] > 0 ? 1 : 0;
            eye += kindTakes(1, d) ? 1 : 0;
            shy += kindTakes(3, d) ? 1 : 0;
        }
        return new int[] {0, takes, takesLying, others, takes - eye, shy - takes}[kind];
    }

    private long deed(String call, int[] p) {
        boolean cut = call.equals("cut");
        boolean bake = call.equals("bake");
        int d = cut ? p[0] : bake ? 2 : p[1];
        if (d < 2 || d > 16 || bake && (p[0] < 1 || p[0] > 9) || !cut && !bake && !isWorker(p[0])) {
            return BAD;
        }
        boolean can = cut ? now.loaves > 0
            : bake ? !now.workers.isEmpty() && now.loaves < 99
            : call.equals("give") ? now.fit(p[0], d)
            : (now.workers.get(p[0]).has >> d & 1) != 0;
        if (!can) {
            return STATE;
        }
        if (now.before.size() >= 40) {
            return FULL;
        }
        now = now.afterDeed();
        if (cut) {
            now.loaves--;
            now.lying[d] += d;
            return now.lying[d];
        }
        if (bake) {
            now.loaves = Math.min(99, now.loaves + p[0]);
            return now.loaves;
        }
        now.lying[d] += call.equals("give") ? -1 : 1;
        now.workers.get(p[0]).has ^= 1 << d;
        return Integer.bitCount(now.workers.get(p[0]).has);
    }

    private long onScenes(String call, int[] p) {
        if (call.equals("undo")) {
            if (p[0] < 0 || p[0] > now.before.size()) {
                return BAD;
            }
            int undone = now.before.size() - p[0];
            now = undone == 0 ? now : now.before.get(p[0]);
            return undone;
        }
        if (call.equals("lots")) {
            return lots(p[0], p[1]);
        }
        if (p[0] < 0 || p[0] > 2) {
            return BAD;
        }
        if (call.equals("keep")) {
            if (now.workers.isEmpty()) {
                return STATE;
            }
            kept[p[0]] = now;
            return now.before.size();
        }
        if (kept[p[0]] == null) {
            return found(1);
        }
        now = kept[p[0]];
        return now.before.size();
    }

    private long lots(int n, int seed) {
        if (n < 1 || n > 20 || seed < 1 || seed > 2147483646) {
            return BAD;
        }
        if (now.workers.isEmpty()) {
            return STATE;
        }
        if (now.before.size() + n > 40) {
            return FULL;
        }
        BigInteger x = BigInteger.valueOf(seed);
        for (int k = 0; k < n; k++) {
            x = x.multiply(BigInteger.valueOf(48271)).mod(BigInteger.valueOf(2147483647));
            int it = x.intValueExact();
            int d = it / 8 % 15 + 2;
            int who = it / 128 % now.workers.size();
            String call = it % 4 == 0 ? "cut" : it % 4 == 3 ? "back" : "give";
            if (deed(call, it % 4 == 0 ? new int[] {d} : new int[] {who, d}) < 0) {
                now = now.afterDeed();
            }
        }
        return Arrays.stream(now.lying).sum();
    }

    /** Every set that makes it up: how many, the greatest size, the first of fewest. */
    static int[] sets(int size, int from) {
        int many = 0;
        int most = 0;
        int few = -1;
        for (int set = 0; set < SUMS.length; set++) {
            if ((set & ~from) == 0 && SUMS[set] == size) {
                many++;
                most = Math.max(most, Integer.bitCount(set));
                few = few < 0 || Integer.bitCount(set) < Integer.bitCount(few) ? set : few;
            }
        }
        return new int[] {many, most, few};
    }

    private long onOne(String call, int[] p) {
        if (!isWorker(p[0]) || call.equals("writes") && (p[1] < 0 || p[1] > 5)) {
            return BAD;
        }
        Worker w = now.workers.get(p[0]);
        if (call.equals("lacks")) {
            fraction(BigInteger.valueOf(w.lack()), BigInteger.valueOf(LOAF));
            return 1;
        }
        if (call.equals("greedy")) {
            return greedy(w.copy());
        }
        int[] s = sets(w.lack(), call.equals("serve") ? w.open() & now.lyingSet() : w.open());
        if (s[0] == 0) {
            return NONE;
        }
        int few = Integer.bitCount(s[2]);
        if (call.equals("ways")) {
            return tell(s[1], s[0]);
        }
        if (call.equals("serve")) {
            return tell(few, s[2]);
        }
        rows[p[1]] = new int[few];
        for (int d = 16, k = few; d >= 2; d--) {
            if ((s[2] >> d & 1) != 0) {
                rows[p[1]][--k] = d;
            }
        }
        return few;
    }

    private int greedy(Worker w) {
        int parts = 0;
        int last = 0;
        boolean more = true;
        while (more) {
            more = false;
            for (int d = 2; d <= 16 && !more; d++) {
                if ((w.open() >> d & 1) != 0 && w.lack() >= LOAF / d) {
                    w.has |= 1 << d;
                    parts++;
                    last = d;
                    more = true;
                }
            }
        }
        return w.lack() == 0 ? tell(last, parts) : NONE;
    }

    private int readySet(int lying) {
        int set = 0;
        for (int i = 0; i < now.workers.size(); i++) {
            Worker w = now.workers.get(i);
            set |= sets(w.lack(), w.open() & lying)[0] > 0 ? 1 << i : 0;
        }
        return set;
    }

    private long onAll(String call) {
        if (now.workers.isEmpty() || call.equals("best") && now.loaves == 0) {
            return STATE;
        }
        if (call.equals("ready")) {
            int set = readySet(now.lyingSet());
            return tell(Integer.bitCount(set), set);
        }
        if (call.equals("best")) {
            int most = Integer.bitCount(readySet(now.lyingSet()));
            int best = NONE;
            for (int d = 2; d <= 16; d++) {
                int payable = Integer.bitCount(readySet(now.lyingSet() | 1 << d));
                if (payable > most) {
                    most = payable;
                    best = d;
                }
            }
            return best == NONE ? NONE : tell(most, best);
        }
        if (call.equals("poor")) {
            int who = 0;
            for (int i = now.workers.size() - 1; i >= 0; i--) {
                who = now.workers.get(i).lack() >= now.workers.get(who).lack() ? i : who;
            }
            for (int i = now.workers.size() - 1; i >= 0; i--) {
                who = now.workers.get(i).lack() == now.workers.get(who).lack() ? i : who;
            }
            fraction(BigInteger.valueOf(now.workers.get(who).lack()), BigInteger.valueOf(LOAF));
            return who;
        }
        int[] have = now.lying.clone();
        int loaves = 0;
        int able = 0;
        for (Worker w : now.workers) {
            int[] s = sets(w.lack(), w.open());
            able += s[0] > 0 ? 1 : 0;
            for (int d = 2; d <= 16 && s[0] > 0; d++) {
                if ((s[2] >> d & 1) != 0) {
                    if (have[d] == 0) {
                        loaves++;
                        have[d] = d;
                    }
                    have[d]--;
                }
            }
        }
        return tell(able, loaves);
    }

    private long onGuess(String call, int[] p) {
        int r = p[0];
        if (r < 0 || r > 5) {
            return BAD;
        }
        if (rows[r] == null) {
            return found(1);
        }
        if (call.equals("dues")) {
            return dues(rows[r]);
        }
        if (rows[r].length % 2 == 1) {
            return found(5);
        }
        int set = 63;
        for (int k = 0; k < rows[r].length; k += 2) {
            int d = rows[r][k];
            if (d < 2 || d > 16 || rows[r][k + 1] != 0 && rows[r][k + 1] != 1) {
                return found(3);
            }
            for (int kind = 0; kind < 6; kind++) {
                set &= kindTakes(kind, d) != (rows[r][k + 1] == 1) ? ~(1 << kind) : -1;
            }
        }
        if (call.equals("kinds")) {
            return set;
        }
        if (set == 0) {
            return NONE;
        }
        int least = 99;
        int best = 0;
        for (int d = 2; d <= 16; d++) {
            int yes = 0;
            int no = 0;
            for (int kind = 0; kind < 6; kind++) {
                if ((set >> kind & 1) != 0) {
                    yes += kindTakes(kind, d) ? 1 : 0;
                    no += kindTakes(kind, d) ? 0 : 1;
                }
            }
            if (Math.max(yes, no) < least) {
                least = Math.max(yes, no);
                best = d;
            }
        }
        return tell(least, best);
    }

    private long dues(int[] row) {
        int set = 0;
        for (int d : row) {
            if (d < 2 || d > 16 || (set >> d & 1) != 0) {
                return found(3);
            }
            set |= 1 << d;
        }
        int many = 0;
        int first = 0;
        for (int ab = 99; ab >= 11; ab--) {
            if (ab % 10 > 0 && (long) LOAF * (ab / 10) == (long) SUMS[set] * (ab % 10)) {
                many++;
                first = ab;
            }
        }
        return many == 0 ? NONE : tell(first, many);
    }

    private long onChance(String call, int[] p) {
        if (call.equals("duel")) {
            if (!isWorker(p[0]) || !isWorker(p[1]) || p[0] == p[1] || p[2] < 0 || p[2] > 4) {
                return BAD;
            }
            return Math.floorDiv(most(now.copy(), p[0], p[1], p[2], true), 1000) + 5000;
        }
        if (!isWorker(p[0]) || p[1] < 0 || p[1] > 12) {
            return BAD;
        }
        Worker w = now.workers.get(p[0]);
        BigInteger whole = BigInteger.valueOf(12).pow(Integer.bitCount(w.has));
        BigInteger sum = BigInteger.ZERO;
        for (int left = w.has; ; left = left - 1 & w.has) {
            BigInteger chance = BigInteger.valueOf(12 - p[1]).pow(Integer.bitCount(left))
                .multiply(BigInteger.valueOf(p[1]).pow(Integer.bitCount(w.has ^ left)));
            if (call.equals("mid")) {
                sum = sum.add(chance.multiply(BigInteger.valueOf(SUMS[left])));
            } else if (SUMS[left] * 2 >= LOAF * w.a / w.b) {
                sum = sum.add(chance);
            }
            if (left == 0) {
                break;
            }
        }
        fraction(sum, call.equals("mid") ? whole.multiply(BigInteger.valueOf(LOAF)) : whole);
        return 1;
    }

    private static int most(Scene s, int first, int second, int turns, boolean firstPicks) {
        Worker one = s.workers.get(first);
        Worker two = s.workers.get(second);
        if (turns == 0) {
            return SUMS[one.has] - SUMS[two.has];
        }
        int best = most(s, first, second, turns - 1, !firstPicks);
        for (int d = 2; d <= 16; d++) {
            int who = firstPicks ? first : second;
            if (s.fit(who, d)) {
                s.lying[d]--;
                s.workers.get(who).has |= 1 << d;
                int value = most(s, first, second, turns - 1, !firstPicks);
                best = firstPicks ? Math.max(best, value) : Math.min(best, value);
                s.workers.get(who).has &= ~(1 << d);
                s.lying[d]++;
            }
        }
        return best;
    }

    private int tally(int what) {
        int had = 0;
        int paid = 0;
        int eyes = 0;
        int shies = 0;
        for (int i = 0; i < now.workers.size(); i++) {
            Worker w = now.workers.get(i);
            had += Integer.bitCount(w.has);
            paid |= w.lack() == 0 ? 1 << i : 0;
            eyes += w.kind == 1 || w.kind == 4 ? 1 : 0;
            shies += w.kind == 3 || w.kind == 5 ? 1 : 0;
        }
        int keptOnes = 0;
        for (Scene s : kept) {
            keptOnes += s != null ? 1 : 0;
        }
        int rowsThere = 0;
        for (int[] row : rows) {
            rowsThere += row != null ? 1 : 0;
        }
        int textsThere = 0;
        for (byte[] text : texts) {
            textsThere += text != null ? 1 : 0;
        }
        return new int[] {now.workers.size(), now.loaves, now.before.size(), Arrays.stream(now.lying).sum(), had, paid,
            now.lyingSet(), rowsThere, textsThere, keptOnes, eyes, shies}[what];
    }

    private long digest() {
        List<Integer> values = new ArrayList<>();
        for (int what = 0; what < 12; what++) {
            values.add(tally(what));
        }
        for (int i = 0; i < now.workers.size(); i++) {
            for (int what = 0; what < 6; what++) {
                values.add(fact(i, what));
            }
        }
        for (int d = 2; d <= 16; d++) {
            values.add(now.lying[d]);
        }
        for (Scene s : kept) {
            values.add(s == null ? -1 : s.before.size());
        }
        for (int[] row : rows) {
            values.add(row == null ? -1 : row.length);
            for (int k = 0; row != null && k < row.length; k++) {
                values.add(row[k]);
            }
        }
        for (byte[] text : texts) {
            values.add(text == null ? -1 : text.length);
            for (int k = 0; text != null && k < text.length; k++) {
                values.add((int) text[k]);
            }
        }
        long h = 17;
        for (int v : values) {
            h = 31 * h + v;
        }
        return h;
    }
}
