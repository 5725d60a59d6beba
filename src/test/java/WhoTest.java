/** Promises 31 to 33: dues, kinds, test. */
public final class WhoTest {
    private static final int NOTHING = Run.NOTHING, UNLIKE = Run.UNLIKE, SIZE = Run.SIZE;
    private static final int MIN = Run.MIN, MAX = Run.MAX;
    private static final int[] NO_PARTS = {1, 17, 0, -1, -2, 34, -30, MIN, MAX};
    /** Pairs, the KINDS (bits) that one can be of by them, the d to offer, the greatest part. */
    private static final int[][][] ASKED = {
        {{}, {63, 2, 3}}, {{2, 0}, {44, 3, 2}}, {{2, 1}, {19, 3, 2}}, {{3, 0}, {42, 2, 2}}, {{3, 1}, {21, 2, 2}},
        {{4, 0}, {4, 2, 1}}, {{4, 1}, {59, 2, 3}}, {{5, 0}, {50, 2, 2}}, {{5, 1}, {13, 2, 2}}, {{6, 0}, {6, 2, 1}},
        {{6, 1}, {57, 2, 2}}, {{10, 0}, {22, 2, 2}}, {{10, 1}, {41, 2, 2}}, {{2, 0, 3, 0}, {40, 5, 1}},
        {{2, 1, 3, 0}, {2, 2, 1}}, {{2, 1, 3, 1}, {17, 5, 1}}, {{2, 0, 5, 0}, {32, 2, 1}}, {{2, 0, 5, 1}, {12, 3, 1}},
        {{2, 1, 5, 0}, {18, 3, 1}}, {{2, 1, 5, 1}, {1, 2, 1}}, {{3, 0, 5, 0}, {34, 2, 1}}, {{3, 0, 5, 1}, {8, 2, 1}},
        {{3, 1, 5, 0}, {16, 2, 1}}, {{3, 1, 5, 1}, {5, 2, 1}}, {{3, 1, 10, 0}, {20, 2, 1}}, {{4, 1, 5, 1}, {9, 2, 1}},
        {{5, 0, 6, 1}, {48, 2, 1}}};

    public static void main(String[] args) {
        Tests.runAll(WhoTest.class);
    }

    // ---- 31 dues

    static void promise31_ofHowMany(Run x) {
        int[][] one = {{2, 4, 12}, {3, 3, 13}, {4, 2, 14}, {5, 1, 15}, {8, 1, 18}, {9, 1, 19}};
        for (int[] d : one) {
            x.row(0, d[0]);
            x.tells("dues(0)", d[1], d[2]);
        }
        x.row(0, 2, 4);
        x.tells("dues(0)", 2, 34);
        x.row(0, 2, 3, 4, 6, 12);
        x.tells("dues(0)", 2, 43);
        x.row(0, 2, 3, 4, 6, 10, 12, 15);
        x.tells("dues(0)", 3, 32);
    }

    static void promise31_theFirstByAThenB(Run x) {
        x.row(0, 2, 3, 6);
        x.tells("dues(0)", 9, 11);
        x.row(0, 2, 3, 4, 5, 6, 12, 15);
        x.tells("dues(0)", 1, 85);
    }

    static void promise31_inAnyOrder(Run x) {
        x.row(5, 6, 2, 3);
        x.tells("dues(5)", 9, 11);
        x.rowIs(5, 6, 2, 3);
    }

    static void promise31_noneOfNone(Run x) {
        x.row(0, 2);
        x.tells("dues(0)", 4, 12);
        for (int d = 10; d <= 16; d++) {
            x.row(0, d);
            x.none("dues(0)");
        }
        x.row(0, 2, 3, 4, 5, 6, 7, 8, 9, 10, 11, 12, 13, 14, 15, 16);
        x.none("dues(0)");
    }

    static void promise31_noneOfARowOfNoInts(Run x) {
        x.call("row(0, 0)");
        x.none("dues(0)");
    }

    static void promise31_unlikeIfADIsNone(Run x) {
        for (int d : NO_PARTS) {
            x.fresh();
            x.row(0, d);
            x.finds("dues(0)", UNLIKE);
            x.row(1, 3, d);
            x.finds("dues(1)", UNLIKE);
            x.row(2, d, 3);
            x.finds("dues(2)", UNLIKE);
        }
        x.row(0, 2, 16);
        x.none("dues(0)");
    }

    static void promise31_unlikeIfTwice(Run x) {
        x.row(0, 2, 2);
        x.finds("dues(0)", UNLIKE);
        x.row(0, 16, 3, 16);
        x.finds("dues(0)", UNLIKE);
        x.row(0, 2, 3, 4, 5, 6, 7, 8, 9, 10, 11, 12, 13, 14, 15, 16, 2);
        x.finds("dues(0)", UNLIKE);
        x.call("row(0, 40)");
        x.finds("dues(0)", UNLIKE);
    }

    static void promise31_nothing(Run x) {
        x.row(0, 2);
        x.finds("dues(1)", NOTHING);
        x.call("tear(0)");
        x.finds("dues(0)", NOTHING);
    }

    static void promise31_bad(Run x) {
        x.row(0, 2);
        x.badRow("dues(#)");
    }

    static void promise31_withoutWorkersOrWith(Run x) {
        x.row(0, 2);
        x.tells("dues(0)", 4, 12);
        x.table("20w34w11");
        x.tells("dues(0)", 4, 12);
    }

    // ---- 32 kinds

    static void promise32_kindsByPairs(Run x) {
        for (int[][] asked : ASKED) {
            x.row(0, asked[0]);
            x.due("kinds(0)", asked[1][0]);
        }
    }

    static void promise32_eachPairAlone(Run x) {
        for (int d = 2; d <= 16; d++) {
            int set = 0;
            for (int kind = 0; kind < 6; kind++) {
                set |= Model.kindTakes(kind, d) ? 1 << kind : 0;
            }
            x.row(0, d, 1);
            x.due("kinds(0)", set);
            x.row(0, d, 0);
            x.due("kinds(0)", 63 - set);
        }
    }

    static void promise32_allByNoPairs(Run x) {
        x.call("row(0, 0)");
        x.due("kinds(0)", 63);
    }

    static void promise32_nobodyIsNoRefusal(Run x) {
        x.row(0, 7, 1, 7, 0);
        x.due("kinds(0)", 0);
        x.row(0, 2, 1, 4, 0);
        x.due("kinds(0)", 0);
    }

    static void promise32_twiceAlike(Run x) {
        x.row(0, 7, 1, 7, 1);
        x.due("kinds(0)", 1 + 4 + 8);
    }

    static void promise32_twentyPairs(Run x) {
        x.call("row(0, 40)");
        for (int i = 0; i < 40; i += 2) {
            x.call("lay(0, " + i + ", 4)");
            x.call("lay(0, " + (i + 1) + ", 1)");
        }
        x.due("kinds(0)", 59);
        x.call("lay(0, 38, 3)");
        x.call("lay(0, 39, 0)");
        x.due("kinds(0)", 42);
        x.call("lay(0, 39, 2)");
        x.finds("kinds(0)", UNLIKE);
    }

    static void promise32_askedStays(Run x) {
        x.row(0, 7, 1);
        x.tells("at(0, 0)", 1, 7);
        x.tells("kinds(0)", 13, 7);
    }

    static void promise32_sizeIfNotByPairs(Run x) {
        x.row(0, 2);
        x.finds("kinds(0)", SIZE);
        x.row(0, 2, 1, 3);
        x.finds("kinds(0)", SIZE);
        x.call("row(0, 39)");
        x.finds("kinds(0)", SIZE);
    }

    static void promise32_sizeAheadOfUnlike(Run x) {
        x.row(0, 99, 1, 2);
        x.finds("kinds(0)", SIZE);
        x.row(0, 99, 1);
        x.finds("kinds(0)", UNLIKE);
    }

    static void promise32_unlikeIfADIsNone(Run x) {
        for (int d : NO_PARTS) {
            x.fresh();
            x.row(0, d, 1);
            x.finds("kinds(0)", UNLIKE);
            x.row(1, 3, 1, d, 0);
            x.finds("kinds(1)", UNLIKE);
            x.row(2, 7, 1, 7, 0, d, 0);
            x.finds("kinds(2)", UNLIKE);
        }
    }

    static void promise32_unlikeIfAnAnswerIsNone(Run x) {
        for (int answer : new int[] {2, -1, 3, MIN, MAX}) {
            x.fresh();
            x.row(0, 2, answer);
            x.finds("kinds(0)", UNLIKE);
            x.row(1, 3, 1, 4, answer);
            x.finds("kinds(1)", UNLIKE);
        }
    }

    static void promise32_nothing(Run x) {
        x.finds("kinds(0)", NOTHING);
        x.finds("kinds(5)", NOTHING);
    }

    static void promise32_bad(Run x) {
        x.row(0, 2, 1);
        x.badRow("kinds(#)");
    }

    // ---- 33 test

    static void promise33_toldApartBest(Run x) {
        for (int[][] asked : ASKED) {
            x.row(0, asked[0]);
            x.tells("test(0)", asked[1][1], asked[1][2]);
        }
    }

    static void promise33_ofAllKinds(Run x) {
        x.call("row(5, 0)");
        x.tells("test(5)", 2, 3);
    }

    static void promise33_ofOneKindTheFirst(Run x) {
        x.row(0, 2, 1, 5, 1);
        x.tells("test(0)", 2, 1);
        x.row(0, 4, 0);
        x.tells("test(0)", 2, 1);
    }

    static void promise33_noneIfThereIsNoKind(Run x) {
        x.row(0, 4, 1);
        x.tells("test(0)", 2, 3);
        x.row(0, 7, 1, 7, 0);
        x.none("test(0)");
    }

    static void promise33_sizeIfNotByPairs(Run x) {
        x.row(0, 2);
        x.finds("test(0)", SIZE);
        x.row(0, 2, 1, 3);
        x.finds("test(0)", SIZE);
        x.call("row(0, 39)");
        x.finds("test(0)", SIZE);
    }

    static void promise33_sizeAheadOfUnlike(Run x) {
        x.row(0, 99, 1, 2);
        x.finds("test(0)", SIZE);
    }

    static void promise33_unlikeIfADIsNone(Run x) {
        for (int d : NO_PARTS) {
            x.fresh();
            x.row(0, d, 1);
            x.finds("test(0)", UNLIKE);
            x.row(1, 7, 1, 7, 0, d, 0);
            x.finds("test(1)", UNLIKE);
        }
    }

    static void promise33_unlikeIfAnAnswerIsNone(Run x) {
        for (int answer : new int[] {2, -1, 3, MIN, MAX}) {
            x.fresh();
            x.row(0, 2, answer);
            x.finds("test(0)", UNLIKE);
            x.row(1, 7, 1, 7, 0, 4, answer);
            x.finds("test(1)", UNLIKE);
        }
    }

    static void promise33_nothing(Run x) {
        x.finds("test(0)", NOTHING);
        x.finds("test(5)", NOTHING);
    }

    static void promise33_bad(Run x) {
        x.row(0, 2, 1);
        x.badRow("test(#)");
    }
}
