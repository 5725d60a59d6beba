import java.util.ArrayList;
import java.util.List;

/**
 * A run of calls on a new object. It says which answer is due, counts the wrong ones, and keeps the calls, so that what
 * a refused call left as it was can be looked at on two objects made anew: one that was refused, one that was not.
 */
final class Run {
    static final int NOTHING = 1, BEYOND = 2, UNLIKE = 3, NOUGHT = 4, SIZE = 5;
    static final int MIN = Integer.MIN_VALUE, MAX = Integer.MAX_VALUE;
    private static final int FINDINGS = 5;
    /** SPENT is never answered. */
    private static final List<Long> REFUSALS = List.of((long) LoafParts.BAD, (long) LoafParts.FULL,
        (long) LoafParts.STATE, (long) LoafParts.NONE);
    /** 48271 times it is 4103035: 3 modulo 4, and by 8, cut, modulo 15, it is 14. */
    private static final int SIXTEENTH_BACK = 85;

    /** Behind it what an object answers is free. */
    private static final int LAST_CALL = 512;

    private final String test;
    private final List<String> calls = new ArrayList<>();
    private LoafParts x = new LoafParts();
    private int checks;
    private int wrong;

    Run(String test) {
        this.test = test;
    }

    int calls() {
        return calls.size();
    }

    int checks() {
        return checks;
    }

    int wrong() {
        return wrong;
    }

    /** Goes on with a new object. */
    void fresh() {
        x = new LoafParts();
        calls.clear();
    }

    /** A call as it is written, MIN and MAX being the least int and the greatest. */
    long call(String call) {
        calls.add(call);
        if (calls.size() > LAST_CALL) {
            throw new IllegalStateException("too many calls");
        }
        return answer(x, call);
    }

    void is(String what, long got, long want) {
        checks++;
        if (got != want) {
            wrong++;
            System.out.println(test + ": " + what + " answered " + got + ", due is " + want);
        }
    }

    void due(String call, long want) {
        is(call, call(call), want);
    }

    /** The call answers so, and asked() tells so behind it. */
    void tells(String call, long want, int asked) {
        due(call, want);
        is(call + ", asked()", call("asked()"), asked);
    }

    /** The call answers so, and upper(), lower() tell so behind it. */
    void fraction(String call, long want, long upper, long lower) {
        due(call, want);
        is(call + ", upper()", call("upper()"), upper);
        is(call + ", lower()", call("lower()"), lower);
    }

    void bad(String call) {
        refused(call, LoafParts.BAD, 0);
    }

    void full(String call) {
        refused(call, LoafParts.FULL, 0);
    }

    void state(String call) {
        refused(call, LoafParts.STATE, 0);
    }

    void none(String call) {
        refused(call, LoafParts.NONE, 0);
    }

    void finds(String call, int finding) {
        refused(call, LoafParts.FINDING, finding);
    }

    /** Whatever the call answers: if it is refused, nothing has changed but what a FINDING changes. */
    void refusedOrNot(String call) {
        long answer = answer(again(), call);
        if (answer == LoafParts.FINDING) {
            LoafParts y = again();
            answer(y, call);
            finds(call, y.finding());
        } else if (answer < 0 && !call.endsWith("()")) {
            is(call + " is refused as told", REFUSALS.contains(answer) ? 1 : 0, 1);
            refused(call, answer, 0);
        } else {
            due(call, answer);
        }
    }

    /** Each number in the place of # is BAD. */
    void badAt(String call, int... numbers) {
        for (int number : numbers) {
            bad(call.replace("#", Integer.toString(number)));
        }
    }

    void badRow(String call) {
        badAt(call, -1, 6, MIN, MAX);
    }

    void badText(String call) {
        badAt(call, -1, 4, MIN, MAX);
    }

    /** The least number of no WORKER is how many there are. */
    void badWorker(String call, int workers) {
        badAt(call, -1, workers, 7, 8, MIN, MAX);
    }

    /** 34 and -30 are 2 in the five bits that Java shifts by. */
    void badPart(String call) {
        badAt(call, 1, 17, 0, -1, -2, 34, -30, MIN, MAX);
    }

    void text(int t, String text) {
        call("text(" + t + ", " + text.length() + ")");
        for (int i = 0; i < text.length(); i++) {
            if (text.charAt(i) != ' ') {
                call("put(" + t + ", " + i + ", " + (int) text.charAt(i) + ")");
            }
        }
    }

    /** A TABLE by TEXT 3. */
    void table(String text) {
        text(3, text);
        if (call("table(3)") < 0) {
            throw new IllegalStateException("no TABLE: " + text);
        }
    }

    void row(int r, int... values) {
        call("row(" + r + ", " + values.length + ")");
        for (int i = 0; i < values.length; i++) {
            call("lay(" + r + ", " + i + ", " + values[i] + ")");
        }
    }

    /** The ROW has these ints and no more. */
    void rowIs(int r, int... values) {
        for (int i = 0; i < values.length; i++) {
            tells("at(" + r + ", " + i + ")", 1, values[i]);
        }
        finds("at(" + r + ", " + values.length + ")", BEYOND);
    }

    /** One of each d is GIVEN, a LOAF CUT for each. */
    void pay(int i, int... parts) {
        for (int d : parts) {
            call("cut(" + d + ")");
            if (call("give(" + i + ", " + d + ")") < 0) {
                throw new IllegalStateException("not GIVEN: " + d);
            }
        }
    }

    /** So many DEEDS of nothing: sixteenths should come BACK that nobody has. */
    void idle(int deeds) {
        for (int left = deeds; left > 0; left--) {
            call("lots(1, " + SIXTEENTH_BACK + ")");
        }
        if (call("count(2)") < deeds) {
            throw new IllegalStateException("not so many DEEDS");
        }
    }

    private void refused(String call, long want, int finding) {
        long[] often = findings();
        List<Long> before = trace();
        due(call, want);
        checks++;
        if (!before.equals(trace())) {
            wrong++;
            System.out.println(test + ": " + call + " changed something");
        }
        long[] oftenNow = findings();
        is(call + ", finding()", oftenNow[0], finding == 0 ? often[0] : finding);
        for (int f = 1; f <= FINDINGS; f++) {
            is(call + ", findings(" + f + ")", oftenNow[f], often[f] + (f == finding ? 1 : 0));
        }
    }

    /** An object on which the calls were made once more. */
    private LoafParts again() {
        if (calls.size() > LAST_CALL - 100) {
            throw new IllegalStateException("too many calls to look behind them");
        }
        LoafParts y = new LoafParts();
        for (String call : calls) {
            answer(y, call);
        }
        return y;
    }

    /** The latest FINDING, then how often each one was answered. */
    private long[] findings() {
        LoafParts y = again();
        long[] often = new long[FINDINGS + 1];
        often[0] = y.finding();
        for (int f = 1; f <= FINDINGS; f++) {
            often[f] = y.findings(f);
        }
        return often;
    }

    /** All else that can be seen of an object after these calls: also what is undone and what was kept. */
    private List<Long> trace() {
        LoafParts y = again();
        List<Long> seen = new ArrayList<>(List.of((long) y.asked(), y.upper(), y.lower()));
        undoAll(y, seen);
        for (int k = 0; k < 3; k++) {
            LoafParts z = again();
            seen.add((long) z.on(k));
            undoAll(z, seen);
        }
        return seen;
    }

    private static void undoAll(LoafParts y, List<Long> seen) {
        seen.add(y.digest());
        for (int n = y.count(2) - 1; n >= 0; n--) {
            seen.add((long) y.undo(n));
            seen.add(y.digest());
        }
    }

    private static long answer(LoafParts x, String call) {
        int open = call.indexOf('(');
        String within = call.substring(open + 1, call.length() - 1).replace(" ", "");
        String[] words = within.isEmpty() ? new String[0] : within.split(",");
        int[] numbers = new int[words.length];
        for (int k = 0; k < words.length; k++) {
            numbers[k] = words[k].equals("MIN") ? MIN : words[k].equals("MAX") ? MAX : Integer.parseInt(words[k]);
        }
        return Calls.answer(x, call.substring(0, open), numbers);
    }
}
