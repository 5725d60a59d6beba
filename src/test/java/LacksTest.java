/** Promises 22 to 26: lacks, ways, writes, greedy, serve. */
public final class LacksTest {
    private static final int NONE = LoafParts.NONE;
    private static final int LOAF = 720720;

    public static void main(String[] args) {
        Tests.runAll(LacksTest.class);
    }

    /** Each DUE of each KIND, by every set of PARTS that there is. */
    private interface Look {
        void at(int kind, int a, int b, int[] sets);
    }

    private static void eachDue(Run x, Look look) {
        for (int kind = 0; kind < 6; kind++) {
            int open = 0;
            for (int d = 2; d <= 16; d++) {
                open |= Model.kindTakes(kind, d) ? 1 << d : 0;
            }
            for (int a = 1; a <= 9; a++) {
                for (int b = 1; b <= 9; b++) {
                    x.fresh();
                    x.table("99" + "weoscm".charAt(kind) + a + b + "w11");
                    look.at(kind, a, b, Model.sets(LOAF / b * a, open));
                }
            }
        }
    }

    // ---- 22 lacks

    static void promise22_inLowestTerms(Run x) {
        x.table("20w69e91s19c99m24");
        x.fraction("lacks(0)", 1, 2, 3);
        x.fraction("lacks(1)", 1, 9, 1);
        x.fraction("lacks(2)", 1, 1, 9);
        x.fraction("lacks(3)", 1, 1, 1);
        x.fraction("lacks(4)", 1, 1, 2);
    }

    static void promise22_lessAllThatItHas(Run x) {
        x.table("20w23w91");
        x.pay(0, 7);
        x.fraction("lacks(0)", 1, 11, 21);
        x.pay(0, 2);
        x.fraction("lacks(0)", 1, 1, 42);
        x.fraction("lacks(1)", 1, 9, 1);
        x.call("back(0, 7)");
        x.fraction("lacks(0)", 1, 1, 6);
    }

    static void promise22_nothingIsNoughtByOne(Run x) {
        x.table("20w56w91");
        x.fraction("lacks(1)", 1, 9, 1);
        x.pay(0, 2, 3);
        x.fraction("lacks(0)", 1, 0, 1);
    }

    static void promise22_bad(Run x) {
        x.badWorker("lacks(#)", 0);
        x.table("20w56w91");
        x.fraction("lacks(1)", 1, 9, 1);
        x.badWorker("lacks(#)", 2);
        x.table("20w11w11w11w11w11w11w12");
        x.fraction("lacks(6)", 1, 1, 2);
        x.badWorker("lacks(#)", 7);
    }

    // ---- 23 ways

    static void promise23_eachDueOfEachKind(Run x) {
        eachDue(x, (kind, a, b, sets) -> {
            if (sets[0] == 0) {
                x.due("ways(0)", NONE);
            } else {
                x.tells("ways(0)", sets[0], sets[1]);
            }
        });
    }

    static void promise23_ofPartsThatItTakes(Run x) {
        x.table("20w11e34o45s25c78m58w32");
        x.tells("ways(0)", 5, 6);
        x.tells("ways(1)", 1, 2);
        x.none("ways(2)");
        x.tells("ways(3)", 1, 3);
        x.tells("ways(4)", 3, 4);
        x.tells("ways(5)", 1, 4);
        x.tells("ways(6)", 1, 7);
    }

    static void promise23_ofPartsThatItHasNoneOf(Run x) {
        x.table("20w11w23");
        x.pay(0, 3);
        x.tells("ways(0)", 3, 5);
        x.tells("ways(1)", 5, 5);
        x.pay(1, 3);
        x.tells("ways(1)", 2, 3);
    }

    static void promise23_onTheTableOrNot(Run x) {
        x.table("02w11w23");
        x.tells("ways(0)", 5, 6);
        x.call("cut(2)");
        x.tells("ways(0)", 5, 6);
        x.call("cut(7)");
        x.tells("ways(0)", 5, 6);
    }

    static void promise23_nothingByOne(Run x) {
        x.table("20w12w11");
        x.tells("ways(1)", 5, 6);
        x.pay(0, 2);
        x.tells("ways(0)", 1, 0);
    }

    static void promise23_noneByNone(Run x) {
        x.table("20w91e11o12w67w11");
        x.tells("ways(4)", 5, 6);
        for (int i = 0; i < 4; i++) {
            x.none("ways(" + i + ")");
        }
        x.pay(4, 16);
        x.none("ways(4)");
        x.due("asked()", 6);
    }

    static void promise23_bad(Run x) {
        x.badWorker("ways(#)", 0);
        x.table("20w12w11");
        x.tells("ways(1)", 5, 6);
        x.badWorker("ways(#)", 2);
    }

    // ---- 24 writes

    static void promise24_eachDueOfEachKind(Run x) {
        eachDue(x, (kind, a, b, sets) -> {
            int few = sets[0] == 0 ? 0 : Integer.bitCount(sets[2]);
            x.due("writes(0, 2)", sets[0] == 0 ? NONE : few);
            x.due("count(7)", sets[0] == 0 ? 0 : 1);
            int place = 0;
            for (int d = 2; d <= 16 && few > 0; d++) {
                if ((sets[2] >> d & 1) != 0) {
                    x.tells("at(2, " + place + ")", 1, d);
                    place++;
                }
            }
        });
    }

    static void promise24_theFewestRising(Run x) {
        x.table("20w57e34w11s14w32");
        x.due("writes(0, 0)", 3);
        x.rowIs(0, 2, 7, 14);
        x.due("writes(1, 0)", 2);
        x.rowIs(0, 2, 4);
        x.due("writes(2, 0)", 3);
        x.rowIs(0, 2, 3, 6);
        x.due("writes(3, 0)", 1);
        x.rowIs(0, 4);
        x.due("writes(4, 0)", 7);
        x.rowIs(0, 2, 3, 4, 6, 10, 12, 15);
    }

    static void promise24_ofPartsThatItHasNoneOf(Run x) {
        x.table("20w23w11");
        x.due("writes(0, 0)", 2);
        x.rowIs(0, 2, 6);
        x.pay(0, 3);
        x.due("writes(0, 0)", 2);
        x.rowIs(0, 4, 12);
    }

    /** 4 6 10 12 (bits 5200) and 4 5 12 15 (bits 36912) are the sets of fewest. */
    static void promise24_ofLikeFewTheLeastNumber(Run x) {
        x.table("20s35w34");
        x.due("writes(0, 0)", 4);
        x.rowIs(0, 4, 6, 10, 12);
        // 7 by 12 without a sixth: 3 4 (bits 24), 2 12 (bits 4100).
        x.pay(1, 6);
        x.due("writes(1, 0)", 2);
        x.rowIs(0, 3, 4);
    }

    static void promise24_theRowIsAnew(Run x) {
        x.table("20w57e34");
        x.row(1, 8, 8, 8, 8, 8);
        x.due("writes(0, 1)", 3);
        x.rowIs(1, 2, 7, 14);
        x.due("writes(1, 5)", 2);
        x.rowIs(5, 2, 4);
        x.due("count(7)", 2);
        x.due("writes(0, 5)", 3);
        x.rowIs(5, 2, 7, 14);
    }

    static void promise24_nothingMakesARowOfNone(Run x) {
        x.table("20w12w11");
        x.row(0, 5, 6);
        x.pay(0, 2);
        x.due("writes(0, 0)", 0);
        x.rowIs(0);
        x.due("writes(0, 1)", 0);
        x.rowIs(1);
    }

    static void promise24_noneLeavesTheRow(Run x) {
        x.table("20o12w91");
        x.row(0, 5, 6);
        x.none("writes(0, 0)");
        x.none("writes(1, 0)");
        x.none("writes(1, 3)");
        x.rowIs(0, 5, 6);
        x.due("count(7)", 1);
    }

    static void promise24_askedStays(Run x) {
        x.table("20w57e34");
        x.tells("worker(0, 1)", 1, 5);
        x.tells("writes(0, 1)", 3, 5);
    }

    static void promise24_badWorker(Run x) {
        x.badWorker("writes(#, 0)", 0);
        x.table("20w57e34");
        x.due("writes(1, 0)", 2);
        x.badWorker("writes(#, 0)", 2);
    }

    static void promise24_badRow(Run x) {
        x.table("20w57o12");
        x.due("writes(0, 0)", 3);
        x.due("writes(0, 5)", 3);
        x.badRow("writes(0, #)");
        x.badRow("writes(1, #)");
    }

    // ---- 25 greedy

    static void promise25_eachDueOfEachKind(Run x) {
        eachDue(x, (kind, a, b, sets) -> {
            int rest = LOAF / b * a;
            int parts = 0;
            int last = 0;
            for (int d = 2; d <= 16; d++) {
                if (Model.kindTakes(kind, d) && LOAF / d <= rest) {
                    rest -= LOAF / d;
                    parts++;
                    last = d;
                }
            }
            x.due("greedy(0)", rest == 0 ? parts : NONE);
            x.due("asked()", rest == 0 ? last : 0);
        });
    }

    static void promise25_alwaysTheGreatestThatIsFit(Run x) {
        x.table("20w11e78o35s38c43m58w19");
        x.tells("greedy(0)", 3, 6);
        x.tells("greedy(1)", 3, 8);
        x.tells("greedy(2)", 3, 15);
        x.tells("greedy(3)", 2, 8);
        x.tells("greedy(4)", 5, 12);
        x.tells("greedy(5)", 4, 12);
        x.tells("greedy(6)", 1, 9);
    }

    static void promise25_asMuchAsItLacksIsFit(Run x) {
        x.table("20w12w47w25");
        x.tells("greedy(0)", 1, 2);
        x.pay(1, 2);
        x.tells("greedy(1)", 1, 14);
        x.pay(2, 3);
        x.tells("greedy(2)", 1, 15);
    }

    static void promise25_onTheTableOrNot(Run x) {
        x.table("20w11w11");
        x.tells("greedy(0)", 3, 6);
        x.call("cut(4)");
        x.tells("greedy(0)", 3, 6);
    }

    static void promise25_ofPartsThatItHasNoneOf(Run x) {
        x.table("20w23w11");
        x.tells("greedy(0)", 2, 6);
        x.pay(0, 3);
        x.tells("greedy(0)", 2, 12);
    }

    static void promise25_nothingByNone(Run x) {
        x.table("20w12w11");
        x.tells("greedy(1)", 3, 6);
        x.pay(0, 2);
        x.tells("greedy(0)", 0, 0);
    }

    /** A SHY one who LACKS a half: 1 by 4, 1 by 5, and then no PART is as little as 1 by 20; yet 4 6 12 make it up. */
    static void promise25_noneThoughItCanBeMadeUp(Run x) {
        x.table("20s12w38w45w11");
        x.tells("greedy(3)", 3, 6);
        for (int i = 0; i < 3; i++) {
            x.none("greedy(" + i + ")");
            x.is("ways(" + i + ") above 0", x.call("ways(" + i + ")") > 0 ? 1 : 0, 1);
        }
    }

    static void promise25_noneIfItCanNotBeMadeUp(Run x) {
        x.table("20w91o12w11");
        x.tells("greedy(2)", 3, 6);
        x.none("greedy(0)");
        x.none("greedy(1)");
    }

    static void promise25_bad(Run x) {
        x.badWorker("greedy(#)", 0);
        x.table("20w12w11");
        x.tells("greedy(1)", 3, 6);
        x.badWorker("greedy(#)", 2);
    }

    // ---- 26 serve

    static void promise26_ofWhatIsOnTheTable(Run x) {
        x.table("20w11e34o12s12");
        x.none("serve(0)");
        x.call("cut(3)");
        x.call("cut(4)");
        x.call("cut(6)");
        x.none("serve(3)");
        x.call("cut(12)");
        x.none("serve(0)");
        x.tells("serve(3)", 1 << 4 | 1 << 6 | 1 << 12, 3);
        x.call("cut(2)");
        x.tells("serve(0)", 1 << 2 | 1 << 3 | 1 << 6, 3);
        x.tells("serve(1)", 1 << 2 | 1 << 4, 2);
        x.none("serve(2)");
    }

    static void promise26_theLastOneLyingThere(Run x) {
        x.table("20w12w12w12");
        x.call("cut(2)");
        x.call("give(0, 2)");
        x.tells("serve(2)", 4, 1);
        x.call("give(1, 2)");
        x.none("serve(2)");
        x.call("back(0, 2)");
        x.tells("serve(2)", 4, 1);
    }

    static void promise26_ofPartsThatItHasNoneOf(Run x) {
        x.table("20w23w11");
        x.pay(0, 3);
        x.none("serve(0)");
        x.call("cut(4)");
        x.call("cut(12)");
        x.tells("serve(0)", 1 << 4 | 1 << 12, 2);
    }

    static void promise26_theFewest(Run x) {
        x.table("20w12w11");
        x.call("cut(4)");
        x.call("cut(6)");
        x.call("cut(12)");
        x.tells("serve(0)", 1 << 4 | 1 << 6 | 1 << 12, 3);
        x.call("cut(3)");
        x.tells("serve(0)", 1 << 3 | 1 << 6, 2);
        x.call("cut(2)");
        x.tells("serve(0)", 1 << 2, 1);
    }

    static void promise26_ofLikeFewTheLeastNumber(Run x) {
        x.table("20s35w11");
        for (int d : new int[] {15, 12, 5, 4}) {
            x.call("cut(" + d + ")");
        }
        x.tells("serve(0)", 36912, 4);
        x.call("cut(10)");
        x.call("cut(6)");
        x.tells("serve(0)", 5200, 4);
        x.table("20w34w11");
        x.pay(0, 6);
        x.call("cut(12)");
        x.call("cut(2)");
        x.tells("serve(0)", 4100, 2);
        x.call("cut(4)");
        x.call("cut(3)");
        x.tells("serve(0)", 24, 2);
    }

    static void promise26_nothingByNone(Run x) {
        x.table("20w12w12");
        x.pay(0, 2);
        x.tells("serve(1)", 4, 1);
        x.tells("serve(0)", 0, 0);
    }

    static void promise26_itIsAside(Run x) {
        x.table("20w11w12");
        x.call("cut(2)");
        long before = x.call("digest()");
        x.tells("serve(1)", 4, 1);
        x.due("digest()", before);
        x.due("count(4)", 0);
    }

    static void promise26_bad(Run x) {
        x.badWorker("serve(#)", 0);
        x.table("20w11w12");
        x.call("cut(2)");
        x.tells("serve(1)", 4, 1);
        x.badWorker("serve(#)", 2);
    }
}
