/** Promises 22 to 30: lacks, ways, writes, greedy, serve; need, poor, ready, best. */
public final class LacksTest {
    private static final Bench B = new Bench();
    private static final int BAD = LoafParts.BAD, STATE = LoafParts.STATE, NONE = LoafParts.NONE;

    public static void main(String[] args) {
        lacks();
        ways();
        writes();
        sixteenth();
        greedy();
        serve();
        need();
        poor();
        ready();
        best();
        wrongInputs();
        aside();
        B.finish("LacksTest");
    }

    private static void lacks() {
        LoafParts x = Bench.tableOf("09w69e91");
        B.tellsFraction(x, "22: lacks(0), in lowest terms", x.lacks(0), 1, 2, 3);
        B.tellsFraction(x, "22: lacks(1)", x.lacks(1), 1, 9, 1);
        Bench.pay(x, 0, 7);
        B.tellsFraction(x, "22: 2 by 3 less 1 by 7", x.lacks(0), 1, 11, 21);
        LoafParts y = Bench.tableOf("09w12w12");
        Bench.pay(y, 0, 2);
        B.tellsFraction(y, "22: nothing", y.lacks(0), 1, 0, 1);
    }

    private static void ways() {
        LoafParts x = Bench.tableOf("09w11e34o11s25c78m58w91");
        B.tells(x, "23: ways(0)", x.ways(0), 5, 6);
        B.tells(x, "23: ways(1)", x.ways(1), 1, 2);
        B.refuses(x, "23: ways(2), by none", () -> x.ways(2), NONE);
        B.tells(x, "23: ways(3)", x.ways(3), 1, 3);
        B.tells(x, "23: ways(4)", x.ways(4), 3, 4);
        B.tells(x, "23: ways(5)", x.ways(5), 1, 4);
        B.refuses(x, "23: ways(6), by none", () -> x.ways(6), NONE);
        Bench.pay(x, 0, 3);
        B.tells(x, "23: 2 by 3 without a third", x.ways(0), 3, 5);
        Bench.pay(x, 0, 2, 6);
        B.tells(x, "23: nothing, by one", x.ways(0), 1, 0);
    }

    private static void writes() {
        LoafParts x = Bench.tableOf("09w57e34o11w11s14");
        Bench.putRow(x, 1, 8, 8, 8, 8, 8);
        B.is("24: writes(0, 1)", x.writes(0, 1), 3);
        rowIs(x, 1, 2, 7, 14);
        B.is("24: writes(1, 5), a ROW that was missing", x.writes(1, 5), 2);
        rowIs(x, 5, 2, 4);
        B.is("24: asked() is left", x.asked(), 4);
        B.refuses(x, "24: writes(2, 1)", () -> x.writes(2, 1), NONE);
        B.is("24: writes(3, 1)", x.writes(3, 1), 3);
        rowIs(x, 1, 2, 3, 6);
        B.is("24: writes(4, 1)", x.writes(4, 1), 1);
        rowIs(x, 1, 4);
        Bench.pay(x, 4, 4);
        B.is("24: writes(4, 1), nothing", x.writes(4, 1), 0);
        rowIs(x, 1);
        LoafParts y = Bench.tableOf("09w56w11");
        Bench.pay(y, 0, 2);
        B.is("24: writes(0, 0), 1 by 3 without a half", y.writes(0, 0), 1);
        rowIs(y, 0, 3);
        Bench.pay(y, 0, 4);
        B.is("24: writes(0, 0), 1 by 12", y.writes(0, 0), 1);
        rowIs(y, 0, 12);
        likeFew();
    }

    private static void likeFew() {
        LoafParts x = Bench.tableOf("30s35w38");
        // 4 6 10 12 (bits 5200) and 4 5 12 15 (bits 36912) are the sets of fewest.
        B.is("24: of like few the least number", x.writes(0, 0), 4);
        rowIs(x, 0, 4, 6, 10, 12);
        B.is("24: 3 by 8", x.writes(1, 0), 2);
        rowIs(x, 0, 4, 8);
        for (int d : new int[] {15, 12, 5, 4}) {
            x.cut(d);
        }
        B.tells(x, "26: the one set that is there", x.serve(0), 36912, 4);
        x.cut(10);
        x.cut(6);
        B.tells(x, "26: of like few the least number", x.serve(0), 5200, 4);
    }

    /** 1 by 7 less 1 by 13 is between a sixteenth and a fifteenth. */
    private static void sixteenth() {
        LoafParts x = Bench.tableOf("09w17w91");
        x.cut(16);
        x.cut(15);
        Bench.pay(x, 0, 13);
        B.tells(x, "12: a sixteenth alone is FIT", x.worker(0, 4), 1, 1 << 16);
        B.is("34: a sixteenth is picked, then a thirteenth", x.duel(0, 1, 2), 5000 + 45);
        B.is("16: give(0, 16)", x.give(0, 16), 2);
        B.refuses(x, "23: ways(0)", () -> x.ways(0), NONE);
        B.refuses(x, "25: greedy(0)", () -> x.greedy(0), NONE);
    }

    private static void rowIs(LoafParts x, int r, int... values) {
        for (int i = 0; i < values.length; i++) {
            B.tells(x, "24: at(" + r + ", " + i + ")", x.at(r, i), 1, values[i]);
        }
        B.finds(x, "24: at(" + r + ", " + values.length + ")", () -> x.at(r, values.length), Bench.BEYOND);
    }

    private static void greedy() {
        LoafParts x = Bench.tableOf("09w11e78o12s12m58w12w57");
        B.tells(x, "25: greedy(0)", x.greedy(0), 3, 6);
        B.tells(x, "25: greedy(1)", x.greedy(1), 3, 8);
        B.refuses(x, "25: greedy(2)", () -> x.greedy(2), NONE);
        // 1 by 4, 1 by 5, then 1 by 20 is left: no PART is FIT.
        B.refuses(x, "25: greedy(3), though it can be made up", () -> x.greedy(3), NONE);
        B.tells(x, "25: greedy(4)", x.greedy(4), 4, 12);
        B.tells(x, "25: greedy(5)", x.greedy(5), 1, 2);
        Bench.pay(x, 5, 3);
        B.tells(x, "25: greedy(5), 1 by 6", x.greedy(5), 1, 6);
        Bench.pay(x, 5, 6);
        B.tells(x, "25: greedy(5), nothing", x.greedy(5), 0, 0);
        B.refuses(x, "25: greedy(6)", () -> x.greedy(6), NONE);
    }

    private static void serve() {
        LoafParts x = Bench.tableOf("20w11e34o11s12");
        B.refuses(x, "26: serve(0), by nothing", () -> x.serve(0), NONE);
        x.cut(3);
        x.cut(4);
        x.cut(6);
        x.cut(12);
        B.refuses(x, "26: serve(0), 5 by 6 is there", () -> x.serve(0), NONE);
        B.tells(x, "26: serve(3), 4 6 12", x.serve(3), 1 << 4 | 1 << 6 | 1 << 12, 3);
        x.cut(2);
        B.tells(x, "26: serve(0), 2 3 6, or 2 4 6 12", x.serve(0), 4 + 8 + 64, 3);
        B.tells(x, "26: serve(1)", x.serve(1), 20, 2);
        B.refuses(x, "26: serve(2)", () -> x.serve(2), NONE);
        x.give(1, 2);
        B.tells(x, "26: serve(1), one that it has is none", x.serve(1), 16, 1);
        x.give(1, 4);
        B.tells(x, "26: serve(1), nothing", x.serve(1), 0, 0);
        x.give(0, 2);
        B.tells(x, "26: serve(0)", x.serve(0), 8 + 64, 2);
        B.is("26: no PART is GIVEN", x.count(4), 3);
    }

    private static void need() {
        LoafParts x = Bench.tableOf("00w12w12w12w11o11");
        // 2 thrice and 2 3 6: four halves (2 LOAVES), a third, a sixth.
        B.tells(x, "27: need()", x.need(), 4, 4);
        x.bake(9);
        x.cut(2);
        B.tells(x, "27: with two halves", x.need(), 3, 4);
        x.cut(2);
        B.tells(x, "27: with four", x.need(), 2, 4);
        x.give(0, 2);
        B.tells(x, "27: one is PAID and still can", x.need(), 2, 4);
        x.cut(3);
        x.cut(6);
        B.tells(x, "27: none", x.need(), 0, 4);
        LoafParts y = Bench.tableOf("00o11o11");
        B.tells(y, "27: nobody can", y.need(), 0, 0);
        LoafParts z = new LoafParts();
        B.refuses(z, "27: no WORKERS", () -> z.need(), STATE);
    }

    private static void poor() {
        LoafParts x = Bench.tableOf("09w12w34e34w23");
        B.tellsFraction(x, "28: poor(), the first", x.poor(), 1, 3, 4);
        Bench.pay(x, 1, 16);
        B.tellsFraction(x, "28: poor(), the next", x.poor(), 2, 3, 4);
        Bench.pay(x, 2, 2);
        B.tellsFraction(x, "28: poor()", x.poor(), 1, 11, 16);
        LoafParts y = Bench.tableOf("09w12w12");
        Bench.pay(y, 0, 2);
        Bench.pay(y, 1, 2);
        B.tellsFraction(y, "28: nobody LACKS", y.poor(), 0, 0, 1);
        Bench.putText(y, 0, "09w12w12w91w11w11w11w11");
        y.table(0);
        B.tellsFraction(y, "28: of seven", y.poor(), 2, 9, 1);
        Bench.putText(y, 0, "09w12w34");
        y.table(0);
        B.tellsFraction(y, "28: of two, no others are left", y.poor(), 1, 3, 4);
        LoafParts z = new LoafParts();
        B.refuses(z, "28: no WORKERS", () -> z.poor(), STATE);
    }

    private static void ready() {
        LoafParts x = Bench.tableOf("09w12e12o12w34");
        B.tells(x, "29: nobody", x.ready(), 0, 0);
        x.cut(2);
        B.tells(x, "29: two, each as if alone", x.ready(), 3, 2);
        x.give(0, 2);
        B.tells(x, "29: who is PAID can be", x.ready(), 3, 2);
        x.cut(4);
        B.tells(x, "29: another", x.ready(), 11, 3);
        x.give(1, 2);
        B.tells(x, "29: no half is left", x.ready(), 3, 2);
        LoafParts z = new LoafParts();
        B.refuses(z, "29: no WORKERS", () -> z.ready(), STATE);
    }

    private static void best() {
        LoafParts x = Bench.tableOf("04w12s14s14e34");
        B.tells(x, "30: by fourths two", x.best(), 4, 2);
        x.cut(4);
        B.tells(x, "30: by halves two more", x.best(), 2, 4);
        x.cut(2);
        B.refuses(x, "30: all can", () -> x.best(), NONE);
        x.cut(16);
        x.cut(16);
        B.refuses(x, "30: no LOAF", () -> x.best(), STATE);
        LoafParts y = Bench.tableOf("04w14w15w16w17");
        B.tells(y, "30: the first of like d", y.best(), 4, 1);
        LoafParts z = new LoafParts();
        B.refuses(z, "30: no WORKERS", () -> z.best(), STATE);
    }

    private static void wrongInputs() {
        LoafParts x = Bench.tableOf("04w12s14");
        x.row(0, 2);
        for (int i : new int[] {2, -1, 7, Integer.MIN_VALUE, Integer.MAX_VALUE}) {
            B.refuses(x, "22: lacks(" + i + ")", () -> x.lacks(i), BAD);
            B.refuses(x, "23: ways(" + i + ")", () -> x.ways(i), BAD);
            B.refuses(x, "24: writes(" + i + ", 0)", () -> x.writes(i, 0), BAD);
            B.refuses(x, "25: greedy(" + i + ")", () -> x.greedy(i), BAD);
            B.refuses(x, "26: serve(" + i + ")", () -> x.serve(i), BAD);
        }
        B.refuses(x, "24: writes(0, 6)", () -> x.writes(0, 6), BAD);
        B.refuses(x, "24: writes(0, -1)", () -> x.writes(0, -1), BAD);
    }

    private static void aside() {
        LoafParts x = Bench.tableOf("09w11e34o11s12c56m58");
        Bench.pay(x, 0, 2);
        Bench.pay(x, 4, 3);
        x.cut(4);
        long before = x.digest();
        for (int i = 0; i < 6; i++) {
            x.lacks(i);
            x.ways(i);
            x.greedy(i);
            x.serve(i);
        }
        x.need();
        x.poor();
        x.ready();
        x.best();
        x.duel(0, 4, 4);
        x.odds(0, 5);
        x.mid(0, 5);
        B.is("what is aside changes nothing", x.digest(), before);
    }
}
