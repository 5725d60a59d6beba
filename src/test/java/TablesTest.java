/** Promises 10 to 14: fault, table, worker, mark, takes. */
public final class TablesTest {
    private static final Bench B = new Bench();
    private static final int BAD = LoafParts.BAD, STATE = LoafParts.STATE, NONE = LoafParts.NONE;

    public static void main(String[] args) {
        fault();
        table();
        worker();
        mark();
        takes();
        B.finish("TablesTest");
    }

    private static void fault() {
        faultIs("00w11e23", NONE);
        faultIs("  99  w11   e99  ", NONE);
        faultIs("05w11e12o13s14c15m16w17", NONE);
        faultIs("05w11e12o13s14c15m16w17   ", NONE);
        faultIs("", 0);
        faultIs("    ", 4);
        faultIs("0", 1);
        faultIs("  7", 3);
        faultIs("7 7w11w11", 1);
        faultIs("x7w11w11", 0);
        faultIs("7xw11w11", 1);
        faultIs("777w11w11", 2);
        faultIs("77", 2);
        faultIs("77  ", 4);
        faultIs("77w", 3);
        faultIs("77w1", 4);
        faultIs("77w11", 5);
        faultIs("77w11  ", 7);
        faultIs("77w01w11", 3);
        faultIs("77w10w11", 4);
        faultIs("77w 11w11", 3);
        faultIs("77w1 1w11", 4);
        faultIs("77w11 W11", 6);
        faultIs("77w11a11", 5);
        faultIs("77w11w1", 7);
        faultIs("77w111w11", 5);
        faultIs("77w11w11w11w11w11w11w11w11", 23);
        faultIs("77w11w11w11w11w11w11w11  w", 25);
        faultIs("77w11w11w11w11w11w11w11 ?", 24);
        faultIs("77w11w11/", 8);
        faultIs("77w1:w11", 4);
        LoafParts x = new LoafParts();
        x.text(0, 1);
        x.put(0, 0, 48 + 256);
        B.is("10: a byte is a byte", x.fault(0), 1);
        B.finds(x, "10: fault(1)", () -> x.fault(1), Bench.NOTHING);
        B.refuses(x, "10: fault(4)", () -> x.fault(4), BAD);
        B.refuses(x, "10: fault(-1)", () -> x.fault(-1), BAD);
    }

    private static void faultIs(String text, int want) {
        LoafParts x = new LoafParts();
        Bench.putText(x, 2, text);
        B.is("10: fault of '" + text + "'", x.fault(2), want);
        if (want != NONE) {
            B.refuses(x, "11: table of '" + text + "'", () -> x.table(2), STATE);
        } else {
            B.is("11: table of '" + text + "'", x.table(2), x.count(0));
        }
    }

    private static void table() {
        LoafParts x = new LoafParts();
        Bench.putText(x, 0, " 42 w12 e34");
        B.is("11: table(0)", x.table(0), 2);
        B.is("11: LOAVES", x.count(1), 42);
        x.cut(2);
        x.give(0, 2);
        x.keep(0);
        x.keep(2);
        Bench.putText(x, 1, "07o11s99m51");
        long before = x.digest();
        B.is("11: a TEXT alone changes no TABLE", x.count(0), 2);
        B.is("11: table(1)", x.table(1), 3);
        B.is("11: anew", before == x.digest() ? 1 : 0, 0);
        B.is("11: WORKERS", x.count(0), 3);
        B.is("11: LOAVES", x.count(1), 7);
        B.is("11: DEEDS", x.count(2), 0);
        B.is("11: PARTS on THE TABLE", x.count(3), 0);
        B.is("11: PARTS that all have", x.count(4), 0);
        B.is("11: of which d", x.count(6), 0);
        B.is("11: kept TABLES go", x.count(9), 0);
        B.finds(x, "11: on(0)", () -> x.on(0), Bench.NOTHING);
        x.keep(1);
        x.text(0, 3);
        B.refuses(x, "11: table(0), a FAULT", () -> x.table(0), STATE);
        B.is("11: refused, kept TABLES stay", x.count(9), 1);
        B.finds(x, "11: table(3)", () -> x.table(3), Bench.NOTHING);
        B.refuses(x, "11: table(4)", () -> x.table(4), BAD);
        B.refuses(x, "11: table(-1)", () -> x.table(-1), BAD);
    }

    private static void worker() {
        LoafParts x = Bench.tableOf("20w34e12o23s14c56m99w11");
        int[][] facts = {{0, 3, 4}, {1, 1, 2}, {2, 2, 3}, {3, 1, 4}, {4, 5, 6}, {5, 9, 9}, {0, 1, 1}};
        for (int i = 0; i < 7; i++) {
            for (int what = 0; what < 3; what++) {
                B.tells(x, "12: worker(" + i + ", " + what + ")", x.worker(i, what), 1, facts[i][what]);
            }
            B.tells(x, "12: has", x.worker(i, 3), 1, 0);
            B.tells(x, "12: FIT", x.worker(i, 4), 1, 0);
            B.tells(x, "12: PAID", x.worker(i, 5), 1, 0);
        }
        x.cut(2);
        x.cut(3);
        x.cut(4);
        int[] fit = {28, 20, 8, 16, 28, 16, 28};
        for (int i = 0; i < 7; i++) {
            B.tells(x, "12: worker(" + i + ", 4)", x.worker(i, 4), 1, fit[i]);
        }
        x.give(0, 2);
        B.tells(x, "12: has a half", x.worker(0, 3), 1, 4);
        B.tells(x, "12: a third is too much for a fourth", x.worker(0, 4), 1, 16);
        B.tells(x, "12: not PAID yet", x.worker(0, 5), 1, 0);
        x.give(0, 4);
        B.tells(x, "12: has both", x.worker(0, 3), 1, 20);
        B.tells(x, "12: FIT no more", x.worker(0, 4), 1, 0);
        B.tells(x, "12: PAID", x.worker(0, 5), 1, 1);
        x.give(1, 2);
        B.tells(x, "12: no half is left", x.worker(6, 4), 1, 24);
        B.refuses(x, "12: worker(7, 0)", () -> x.worker(7, 0), BAD);
        B.refuses(x, "12: worker(-1, 0)", () -> x.worker(-1, 0), BAD);
        B.refuses(x, "12: worker(0, 6)", () -> x.worker(0, 6), BAD);
        B.refuses(x, "12: worker(0, -1)", () -> x.worker(0, -1), BAD);
    }

    private static void mark() {
        LoafParts x = Bench.tableOf("20w11e11o11s11c11m11");
        x.cut(2);
        x.cut(3);
        x.cut(5);
        x.cut(6);
        int unlike = LoafParts.FINDING;
        int[][] marks = {
            {unlike, unlike, unlike, unlike, unlike},
            {4, unlike, unlike, unlike, unlike},
            {unlike, 2, unlike, unlike, unlike},
            {unlike, unlike, 2, unlike, unlike},
            {7, unlike, unlike, 3, unlike},
            {unlike, unlike, 3, unlike, 6}};
        for (int i = 0; i < 6; i++) {
            for (int kind = 1; kind <= 5; kind++) {
                int who = i;
                int what = kind;
                String call = "13: mark(" + i + ", " + kind + ")";
                if (marks[i][kind - 1] == unlike) {
                    B.finds(x, call, () -> x.mark(who, what), Bench.UNLIKE);
                } else {
                    B.is(call, x.mark(i, kind), marks[i][kind - 1]);
                }
            }
        }
        B.refuses(x, "13: mark(0, 0)", () -> x.mark(0, 0), BAD);
        B.refuses(x, "13: mark(0, 6)", () -> x.mark(0, 6), BAD);
        B.refuses(x, "13: mark(0, -1)", () -> x.mark(0, -1), BAD);
        B.refuses(x, "13: mark(6, 1)", () -> x.mark(6, 1), BAD);
        B.refuses(x, "13: mark(-1, 1)", () -> x.mark(-1, 1), BAD);
    }

    private static void takes() {
        LoafParts x = Bench.tableOf("20w11e11o11s11c11m11");
        String[] taken = {
            "2 3 4 5 6 7 8 9 10 11 12 13 14 15 16", "2 4 8 16", "3 5 7 9 11 13 15",
            "4 5 6 7 8 9 10 11 12 13 14 15 16", "2 3 4 6 8 12 16", "4 6 8 10 12 14 16"};
        for (int i = 0; i < 6; i++) {
            for (int d = 2; d <= 16; d++) {
                boolean does = (" " + taken[i] + " ").contains(" " + d + " ");
                B.is("14: takes(" + i + ", " + d + ")", x.takes(i, d), does ? 1 : 0);
            }
        }
        B.refuses(x, "14: takes(0, 1)", () -> x.takes(0, 1), BAD);
        B.refuses(x, "14: takes(0, 17)", () -> x.takes(0, 17), BAD);
        B.refuses(x, "14: takes(0, 34)", () -> x.takes(0, 34), BAD);
        B.refuses(x, "14: takes(6, 2)", () -> x.takes(6, 2), BAD);
        B.refuses(x, "14: takes(-1, 2)", () -> x.takes(-1, 2), BAD);
    }
}
