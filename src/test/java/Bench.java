/** What the tests of the promises share: they say which answer is due, and count the wrong ones. */
final class Bench {
    static final int NOTHING = 1, BEYOND = 2, UNLIKE = 3, NOUGHT = 4, SIZE = 5;

    interface Call {
        long run();
    }

    private int checks;
    private int wrong;

    void is(String what, long got, long want) {
        checks++;
        if (got != want) {
            wrong++;
            System.out.println(what + " answered " + got + ", due is " + want);
        }
    }

    /** The call answers so, and asked() tells so behind it. */
    void tells(LoafParts x, String what, long got, long want, int asked) {
        is(what, got, want);
        is(what + ", asked()", x.asked(), asked);
    }

    /** The call answers so, and upper(), lower() tell so behind it. */
    void tellsFraction(LoafParts x, String what, long got, long want, long upper, long lower) {
        is(what, got, want);
        is(what + ", upper()", x.upper(), upper);
        is(what + ", lower()", x.lower(), lower);
    }

    /** The call is refused with BAD, FULL or STATE, or answers NONE, and nothing at all has changed. */
    void refuses(LoafParts x, String what, Call call, int want) {
        String before = stateOf(x) + findingsOf(x);
        is(what, call.run(), want);
        same(what, before, stateOf(x) + findingsOf(x));
    }

    /** The call is refused with a FINDING, and nothing but finding(), findings() has changed. */
    void finds(LoafParts x, String what, Call call, int finding) {
        String before = stateOf(x);
        int often = x.findings(finding);
        int all = allFindings(x);
        is(what, call.run(), LoafParts.FINDING);
        same(what, before, stateOf(x));
        is(what + ", finding()", x.finding(), finding);
        is(what + ", findings()", x.findings(finding), often + 1);
        is(what + ", all findings()", allFindings(x), all + 1);
    }

    void finish(String name) {
        System.out.println(name + ": " + checks + " checks, " + wrong + " wrong");
        if (wrong != 0) {
            System.exit(1);
        }
    }

    static void putText(LoafParts x, int t, String text) {
        x.text(t, text.length());
        for (int i = 0; i < text.length(); i++) {
            if (text.charAt(i) != ' ') {
                x.put(t, i, text.charAt(i));
            }
        }
    }

    static LoafParts tableOf(String text) {
        LoafParts x = new LoafParts();
        putText(x, 3, text);
        if (x.table(3) < 0) {
            throw new IllegalStateException("no TABLE: " + text);
        }
        return x;
    }

    static void putRow(LoafParts x, int r, int... values) {
        x.row(r, values.length);
        for (int i = 0; i < values.length; i++) {
            x.lay(r, i, values[i]);
        }
    }

    /** One of each d is GIVEN, a LOAF CUT for each. */
    static void pay(LoafParts x, int i, int... parts) {
        for (int d : parts) {
            x.cut(d);
            if (x.give(i, d) < 0) {
                throw new IllegalStateException("not given: " + d);
            }
        }
    }

    private void same(String what, String before, String after) {
        checks++;
        if (!before.equals(after)) {
            wrong++;
            System.out.println(what + " changed " + before + " to " + after);
        }
    }

    private static String stateOf(LoafParts x) {
        return x.digest() + " " + x.asked() + " " + x.upper() + " " + x.lower();
    }

    private static String findingsOf(LoafParts x) {
        return " " + x.finding() + " " + allFindings(x);
    }

    private static int allFindings(LoafParts x) {
        int all = 0;
        for (int f = NOTHING; f <= SIZE; f++) {
            all += x.findings(f);
        }
        return all;
    }
}
