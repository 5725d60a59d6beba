/** Promises 31 to 33: dues, kinds, test. */
public final class WhoTest {
    private static final Bench B = new Bench();
    private static final int BAD = LoafParts.BAD, NONE = LoafParts.NONE;

    public static void main(String[] args) {
        dues();
        kinds();
        test();
        wrongPairs();
        B.finish("WhoTest");
    }

    private static void dues() {
        LoafParts x = new LoafParts();
        Bench.putRow(x, 0, 2);
        B.tells(x, "31: a half", x.dues(0), 4, 12);
        Bench.putRow(x, 0, 6, 3, 2);
        B.tells(x, "31: one", x.dues(0), 9, 11);
        Bench.putRow(x, 0, 2, 4);
        B.tells(x, "31: 3 by 4", x.dues(0), 2, 34);
        Bench.putRow(x, 0, 9);
        B.tells(x, "31: 1 by 9", x.dues(0), 1, 19);
        Bench.putRow(x, 0, 16);
        B.refuses(x, "31: 1 by 16", () -> x.dues(0), NONE);
        x.row(0, 0);
        B.refuses(x, "31: nothing", () -> x.dues(0), NONE);
        Bench.putRow(x, 0, 2, 3, 4, 5, 6, 7, 8, 9, 10, 11, 12, 13, 14, 15, 16);
        B.refuses(x, "31: all", () -> x.dues(0), NONE);
        Bench.putRow(x, 0, 2, 3, 4, 5, 6, 8, 10, 12, 15);
        B.refuses(x, "31: 1 11 by 24 and more", () -> x.dues(0), NONE);
        Bench.putRow(x, 0, 2, 3, 4, 6, 12);
        B.tells(x, "31: 4 by 3", x.dues(0), 2, 43);
        Bench.putRow(x, 0, 2, 2);
        B.finds(x, "31: twice", () -> x.dues(0), Bench.UNLIKE);
        for (int d : new int[] {0, 1, 17, -2, 34, Integer.MIN_VALUE, Integer.MAX_VALUE}) {
            Bench.putRow(x, 0, 3, d);
            B.finds(x, "31: d " + d, () -> x.dues(0), Bench.UNLIKE);
        }
        x.row(0, 40);
        B.finds(x, "31: 40 of 0", () -> x.dues(0), Bench.UNLIKE);
        B.finds(x, "31: dues(1)", () -> x.dues(1), Bench.NOTHING);
        B.refuses(x, "31: dues(6)", () -> x.dues(6), BAD);
        B.refuses(x, "31: dues(-1)", () -> x.dues(-1), BAD);
    }

    private static void kinds() {
        LoafParts x = new LoafParts();
        x.row(0, 0);
        B.is("32: all", x.kinds(0), 63);
        Bench.putRow(x, 0, 2, 1);
        B.is("32: TAKES 2", x.kinds(0), 1 + 2 + 16);
        Bench.putRow(x, 0, 2, 0);
        B.is("32: does not TAKE 2", x.kinds(0), 4 + 8 + 32);
        Bench.putRow(x, 0, 2, 1, 3, 1, 5, 0);
        B.is("32: a SCRIBE", x.kinds(0), 16);
        Bench.putRow(x, 0, 4, 1, 3, 0, 5, 0, 2, 0);
        B.is("32: a MASTER", x.kinds(0), 32);
        Bench.putRow(x, 0, 4, 1, 5, 1, 3, 0);
        B.is("32: a SHY one", x.kinds(0), 8);
        Bench.putRow(x, 0, 3, 1, 4, 0);
        B.is("32: an ODD one", x.kinds(0), 4);
        Bench.putRow(x, 0, 16, 1, 12, 0);
        B.is("32: an EYE", x.kinds(0), 2);
        Bench.putRow(x, 0, 2, 1, 5, 1);
        B.is("32: a WORKER", x.kinds(0), 1);
        Bench.putRow(x, 0, 7, 1, 7, 0);
        B.is("32: none", x.kinds(0), 0);
        Bench.putRow(x, 0, 7, 1, 7, 1);
        B.is("32: twice alike", x.kinds(0), 1 + 4 + 8);
        B.is("32: asked() is left", x.asked(), 0);
    }

    private static void test() {
        LoafParts x = new LoafParts();
        x.row(0, 0);
        B.tells(x, "33: all", x.test(0), 2, 3);
        Bench.putRow(x, 0, 2, 1);
        // WORKER, EYE, SCRIBE: 3 parts the EYE from the others.
        B.tells(x, "33: WORKER, EYE, SCRIBE", x.test(0), 3, 2);
        Bench.putRow(x, 0, 2, 0);
        B.tells(x, "33: ODD, SHY, MASTER", x.test(0), 3, 2);
        Bench.putRow(x, 0, 2, 0, 3, 0);
        B.tells(x, "33: SHY, MASTER", x.test(0), 5, 1);
        Bench.putRow(x, 0, 2, 1, 3, 1);
        B.tells(x, "33: WORKER, SCRIBE", x.test(0), 5, 1);
        Bench.putRow(x, 0, 2, 1, 5, 1);
        B.tells(x, "33: a WORKER alone", x.test(0), 2, 1);
        Bench.putRow(x, 0, 7, 1, 7, 0);
        B.refuses(x, "33: none", () -> x.test(0), NONE);
    }

    private static void wrongPairs() {
        LoafParts x = new LoafParts();
        Bench.putRow(x, 0, 99, 1, 2);
        B.finds(x, "32: kinds, SIZE first", () -> x.kinds(0), Bench.SIZE);
        B.finds(x, "33: test, SIZE first", () -> x.test(0), Bench.SIZE);
        int[][] pairs = {{1, 1}, {17, 0}, {2, 2}, {2, -1}, {3, 1, 0, 0}, {3, 1, 4, Integer.MAX_VALUE}, {-2, 1},
            {Integer.MIN_VALUE, 1}, {7, 1, 7, 0, 1, 1}};
        for (int[] pair : pairs) {
            Bench.putRow(x, 1, pair);
            B.finds(x, "32: kinds, " + pair[0], () -> x.kinds(1), Bench.UNLIKE);
            B.finds(x, "33: test, " + pair[0], () -> x.test(1), Bench.UNLIKE);
        }
        B.finds(x, "32: kinds(5)", () -> x.kinds(5), Bench.NOTHING);
        B.finds(x, "33: test(5)", () -> x.test(5), Bench.NOTHING);
        for (int r : new int[] {6, -1}) {
            B.refuses(x, "32: kinds(" + r + ")", () -> x.kinds(r), BAD);
            B.refuses(x, "33: test(" + r + ")", () -> x.test(r), BAD);
        }
    }
}
