/** Promises 15 to 21: cut, give, back, bake, undo, keep, on. */
public final class DeedsTest {
    private static final int NOTHING = Run.NOTHING, MIN = Run.MIN, MAX = Run.MAX;

    public static void main(String[] args) {
        Tests.runAll(DeedsTest.class);
    }

    // ---- 15 cut

    static void promise15_intoEachD(Run x) {
        x.table("99w11w11");
        for (int d = 2; d <= 16; d++) {
            x.due("cut(" + d + ")", d);
            x.due("count(1)", 99 - (d - 1));
            x.due("count(2)", d - 1);
            x.due("count(6)", (2 << d) - 4);
        }
        x.due("count(3)", 135);
    }

    static void promise15_partsAreAddedUp(Run x) {
        x.table("99w11w11");
        for (int k = 1; k <= 40; k++) {
            x.due("cut(16)", 16 * k);
        }
        x.due("count(3)", 640);
        x.due("count(6)", 1 << 16);
    }

    static void promise15_whatIsGivenIsNotOnTheTable(Run x) {
        x.table("99w11w11");
        x.pay(0, 2);
        x.due("cut(2)", 3);
    }

    static void promise15_theLastLoaf(Run x) {
        x.table("01w11w11");
        x.due("cut(2)", 2);
        x.due("count(1)", 0);
        x.state("cut(2)");
    }

    static void promise15_stateWithoutLoaves(Run x) {
        x.table("00w11w11");
        x.state("cut(2)");
        x.call("bake(1)");
        x.due("cut(2)", 2);
        x.state("cut(2)");
    }

    static void promise15_stateWithoutWorkers(Run x) {
        x.state("cut(2)");
        x.state("cut(16)");
    }

    static void promise15_badPart(Run x) {
        x.table("99w11w11");
        x.badPart("cut(#)");
    }

    static void promise15_badAheadOfState(Run x) {
        x.badPart("cut(#)");
        x.table("00w11w11");
        x.badPart("cut(#)");
    }

    static void promise15_full(Run x) {
        x.table("99w11w11");
        x.idle(39);
        x.due("cut(2)", 2);
        x.due("count(2)", 40);
        x.full("cut(2)");
        x.full("cut(16)");
        x.due("count(1)", 98);
    }

    static void promise15_badAheadOfFull(Run x) {
        x.table("99w11w11");
        x.idle(40);
        x.badPart("cut(#)");
    }

    static void promise15_fullLast(Run x) {
        x.table("00w11w11");
        x.idle(40);
        x.state("cut(2)");
    }

    // ---- 16 give

    static void promise16_howManyItHasThen(Run x) {
        x.table("20w52w11");
        for (int d = 2; d <= 16; d++) {
            x.call("cut(" + d + ")");
            x.due("give(0, " + d + ")", d - 1);
            x.due("count(4)", d - 1);
        }
        x.due("give(1, 2)", 1);
        x.due("count(2)", 31);
    }

    static void promise16_itLeavesTheTable(Run x) {
        x.table("20w11w11w11");
        x.call("cut(2)");
        x.due("give(0, 2)", 1);
        x.due("count(3)", 1);
        x.due("count(6)", 4);
        x.due("give(1, 2)", 1);
        x.due("count(3)", 0);
        x.due("count(6)", 0);
        x.state("give(2, 2)");
    }

    static void promise16_stateIfThereIsNoneOnTheTable(Run x) {
        x.table("20w11w11");
        x.state("give(0, 2)");
        x.call("cut(3)");
        x.state("give(0, 2)");
        x.state("give(0, 4)");
        x.due("give(0, 3)", 1);
    }

    static void promise16_stateIfItDoesNotTakeIt(Run x) {
        x.table("20w91e91o91s91c91m91");
        for (int d : new int[] {2, 3, 4, 5, 6, 16}) {
            x.call("cut(" + d + ")");
        }
        x.state("give(1, 3)");
        x.state("give(1, 6)");
        x.due("give(1, 16)", 1);
        x.state("give(2, 2)");
        x.due("give(2, 3)", 1);
        x.state("give(3, 3)");
        x.due("give(3, 4)", 1);
        x.state("give(4, 5)");
        x.due("give(4, 6)", 1);
        x.state("give(5, 2)");
        x.state("give(5, 5)");
        x.due("give(5, 4)", 1);
    }

    static void promise16_stateIfItHasOneSuch(Run x) {
        x.table("20w91w11");
        x.call("cut(2)");
        x.due("give(0, 2)", 1);
        x.state("give(0, 2)");
        x.call("back(0, 2)");
        x.due("give(0, 2)", 1);
    }

    static void promise16_stateIfItLacksLess(Run x) {
        x.table("20w34w13");
        x.call("cut(2)");
        x.call("cut(3)");
        x.call("cut(4)");
        x.state("give(1, 2)");
        x.due("give(0, 2)", 1);
        x.state("give(0, 3)");
        x.due("give(0, 4)", 2);
        x.due("give(1, 3)", 1);
    }

    /** 5 by 6 less 1 by 2 is 1 by 3; 4 by 9 less 1 by 9 is 1 by 3, too, but 4 by 9 less 1 by 8 is less by 1 by 72. */
    static void promise16_asMuchAsItLacksIsFit(Run x) {
        x.table("20w56w49w49");
        x.pay(0, 2);
        x.pay(1, 9);
        x.pay(2, 8);
        x.call("cut(3)");
        x.due("give(0, 3)", 2);
        x.due("give(1, 3)", 2);
        x.state("give(2, 3)");
        x.tells("worker(0, 5)", 1, 1);
        x.tells("worker(1, 5)", 1, 1);
    }

    static void promise16_stateIfItIsPaid(Run x) {
        x.table("20w12w11");
        x.call("cut(16)");
        x.pay(0, 2);
        x.state("give(0, 16)");
    }

    static void promise16_badWorker(Run x) {
        x.badWorker("give(#, 2)", 0);
        x.table("20w11w11");
        x.call("cut(2)");
        x.badWorker("give(#, 2)", 2);
        x.due("give(1, 2)", 1);
    }

    static void promise16_badPart(Run x) {
        x.table("20w91w91");
        x.call("cut(2)");
        x.call("cut(16)");
        x.badPart("give(0, #)");
        x.due("give(0, 16)", 1);
    }

    static void promise16_full(Run x) {
        x.table("99w11w11");
        x.idle(38);
        x.call("cut(2)");
        x.due("give(0, 2)", 1);
        x.full("give(1, 2)");
    }

    static void promise16_fullLast(Run x) {
        x.table("99w11w11o11");
        x.idle(38);
        x.pay(0, 2);
        x.state("give(0, 2)");
        x.state("give(0, 3)");
        x.state("give(2, 2)");
        x.bad("give(3, 2)");
        x.bad("give(0, 17)");
        x.full("give(1, 2)");
    }

    // ---- 17 back

    static void promise17_howManyItHasThen(Run x) {
        x.table("20w52w11");
        x.pay(0, 2, 3, 16);
        x.due("back(0, 3)", 2);
        x.due("back(0, 16)", 1);
        x.due("back(0, 2)", 0);
        x.tells("worker(0, 3)", 1, 0);
        x.due("count(2)", 9);
    }

    static void promise17_itLiesOnTheTableThen(Run x) {
        x.table("20w12w12w12");
        x.call("cut(2)");
        x.call("give(0, 2)");
        x.call("give(1, 2)");
        x.due("count(6)", 0);
        x.due("back(0, 2)", 0);
        x.due("count(3)", 1);
        x.due("count(4)", 1);
        x.due("count(6)", 4);
        x.fraction("lacks(0)", 1, 1, 2);
        x.due("give(2, 2)", 1);
    }

    static void promise17_stateIfItHasNoneSuch(Run x) {
        x.table("20w34w11");
        x.state("back(0, 2)");
        x.call("cut(2)");
        x.state("back(0, 2)");
        x.call("give(0, 2)");
        x.state("back(1, 2)");
        x.state("back(0, 3)");
        x.due("back(0, 2)", 0);
        x.state("back(0, 2)");
    }

    static void promise17_badWorker(Run x) {
        x.badWorker("back(#, 2)", 0);
        x.table("20w34w11");
        x.pay(1, 2);
        x.badWorker("back(#, 2)", 2);
        x.due("back(1, 2)", 0);
    }

    static void promise17_badPart(Run x) {
        x.table("20w34w91");
        x.pay(1, 2, 16);
        x.badPart("back(1, #)");
        x.due("back(1, 16)", 1);
    }

    static void promise17_full(Run x) {
        x.table("99w11w11");
        x.call("cut(2)");
        x.call("give(0, 2)");
        x.call("give(1, 2)");
        x.idle(36);
        x.due("back(0, 2)", 0);
        x.full("back(1, 2)");
    }

    static void promise17_fullLast(Run x) {
        x.table("99w11w11");
        x.pay(0, 2);
        x.idle(38);
        x.state("back(1, 2)");
        x.state("back(0, 3)");
        x.bad("back(2, 2)");
        x.bad("back(0, 1)");
        x.full("back(0, 2)");
    }

    // ---- 18 bake

    static void promise18_oneToNine(Run x) {
        x.table("00w11w11");
        int loaves = 0;
        for (int n = 1; n <= 9; n++) {
            loaves += n;
            x.due("bake(" + n + ")", loaves);
            x.due("count(1)", loaves);
            x.due("count(2)", n);
        }
    }

    static void promise18_badNumber(Run x) {
        x.table("00w11w11");
        x.badAt("bake(#)", 0, 10, -1, 99, MIN, MAX);
    }

    static void promise18_upTo99(Run x) {
        x.table("89w11w11");
        x.due("bake(9)", 98);
        x.due("bake(1)", 99);
        x.due("cut(2)", 2);
        x.due("bake(1)", 99);
    }

    static void promise18_whatIsMoreIsLost(Run x) {
        x.table("98w11w11");
        x.due("bake(9)", 99);
        x.due("count(1)", 99);
        x.call("cut(2)");
        x.due("count(1)", 98);
        x.due("bake(2)", 99);
        x.table("91w11w11");
        x.due("bake(9)", 99);
    }

    static void promise18_stateIfThereAre99(Run x) {
        x.table("99w11w11");
        x.state("bake(1)");
        x.state("bake(9)");
        x.call("cut(2)");
        x.due("bake(1)", 99);
        x.state("bake(1)");
    }

    static void promise18_stateWithoutWorkers(Run x) {
        x.state("bake(1)");
        x.state("bake(9)");
    }

    static void promise18_badAheadOfState(Run x) {
        x.badAt("bake(#)", 0, 10, -1);
        x.table("99w11w11");
        x.badAt("bake(#)", 0, 10, -1);
    }

    static void promise18_full(Run x) {
        x.table("00w11w11");
        x.idle(39);
        x.due("bake(1)", 1);
        x.full("bake(1)");
    }

    static void promise18_fullLast(Run x) {
        x.table("99w11w11");
        x.idle(40);
        x.state("bake(1)");
        x.bad("bake(0)");
        x.bad("bake(10)");
    }

    // ---- 19 undo

    static void promise19_howMany(Run x) {
        x.table("20w11w11");
        for (int n = 0; n <= 40; n++) {
            x.call("undo(0)");
            x.idle(6);
            if (n <= 6) {
                x.due("undo(" + n + ")", 6 - n);
                x.due("count(2)", n);
            } else {
                x.bad("undo(" + n + ")");
            }
        }
    }

    static void promise19_bad(Run x) {
        x.table("20w11w11");
        x.due("undo(0)", 0);
        x.badAt("undo(#)", 1, -1, 40, MIN, MAX);
        x.call("cut(2)");
        x.due("undo(1)", 0);
        x.badAt("undo(#)", 2, -1, 40, MIN, MAX);
    }

    static void promise19_of40(Run x) {
        x.table("20w11w11");
        x.idle(40);
        x.bad("undo(41)");
        x.due("undo(40)", 0);
        x.due("undo(39)", 1);
        x.due("undo(0)", 39);
        x.due("undo(0)", 0);
    }

    static void promise19_withoutWorkers(Run x) {
        x.due("undo(0)", 0);
        x.badAt("undo(#)", 1, -1);
    }

    static void promise19_eachDeedIsUndone(Run x) {
        x.table("05w34e12w11");
        String[] deeds = {"cut(2)", "give(0, 2)", "bake(9)", "back(0, 2)", "give(1, 2)", "cut(2)", "cut(16)",
            "give(2, 16)", "lots(1, 85)", "lots(1, 3)", "back(1, 2)"};
        long[] digests = new long[deeds.length];
        for (int n = 0; n < deeds.length; n++) {
            digests[n] = x.call("digest()");
            x.call(deeds[n]);
        }
        for (int n = deeds.length - 1; n >= 0; n--) {
            x.due("undo(" + n + ")", 1);
            x.due("digest()", digests[n]);
        }
        for (String deed : deeds) {
            x.call(deed);
        }
        x.due("undo(4)", deeds.length - 4);
        x.due("digest()", digests[4]);
        x.due("undo(0)", 4);
        x.due("digest()", digests[0]);
    }

    static void promise19_whatWasLostIsNotTaken(Run x) {
        x.table("98w11w11");
        x.call("bake(9)");
        x.due("undo(0)", 1);
        x.due("count(1)", 98);
        x.call("cut(2)");
        x.call("bake(9)");
        x.call("cut(2)");
        x.due("count(1)", 98);
        x.due("undo(1)", 2);
        x.due("count(1)", 97);
        x.due("undo(0)", 1);
        x.due("count(1)", 98);
    }

    static void promise19_thereIsRoomAgain(Run x) {
        x.table("20w11w11");
        x.idle(40);
        x.full("cut(2)");
        x.due("undo(39)", 1);
        x.due("cut(2)", 2);
        x.full("cut(2)");
        x.due("undo(20)", 20);
        x.is("lots(20, 7)", x.call("lots(20, 7)"), x.call("count(3)"));
        x.due("count(2)", 40);
    }

    static void promise19_otherDeedsComeInTheirPlace(Run x) {
        x.table("20w11w11");
        x.call("cut(2)");
        x.call("give(0, 2)");
        x.call("bake(3)");
        x.due("undo(1)", 2);
        x.call("cut(3)");
        x.call("give(1, 3)");
        x.due("undo(1)", 2);
        x.due("count(6)", 4);
        x.due("count(1)", 19);
        x.due("count(4)", 0);
        x.due("undo(0)", 1);
        x.due("count(6)", 0);
        x.due("count(1)", 20);
    }

    static void promise19_allElseStays(Run x) {
        x.table("20w11w11");
        x.pay(0, 2);
        x.call("keep(1)");
        x.row(2, 5);
        x.tells("worker(0, 3)", 1, 4);
        x.due("undo(0)", 2);
        x.due("asked()", 4);
        x.due("count(9)", 1);
        x.rowIs(2, 5);
        x.due("on(1)", 2);
    }

    // ---- 20 keep

    static void promise20_placesZeroToTwo(Run x) {
        x.table("20w11w11");
        for (int k = 0; k < 3; k++) {
            x.due("keep(" + k + ")", k);
            x.due("count(9)", k + 1);
            x.call("cut(2)");
        }
        x.badAt("keep(#)", 3, -1, MIN, MAX);
    }

    static void promise20_howManyDeeds(Run x) {
        x.table("20w11w11");
        x.due("keep(0)", 0);
        x.idle(40);
        x.due("keep(1)", 40);
        x.call("undo(7)");
        x.due("keep(2)", 7);
    }

    static void promise20_anewInTheSamePlace(Run x) {
        x.table("20w11w11");
        x.call("cut(2)");
        x.due("keep(1)", 1);
        x.call("cut(3)");
        x.due("keep(1)", 2);
        x.due("count(9)", 1);
        x.call("undo(0)");
        x.due("on(1)", 2);
        x.due("count(6)", 12);
    }

    static void promise20_whatIsKeptStaysAsItIs(Run x) {
        x.table("05w34e12w11");
        x.pay(0, 2);
        x.call("bake(3)");
        x.call("keep(1)");
        x.call("undo(0)");
        x.call("cut(16)");
        x.call("give(2, 16)");
        x.call("lots(9, 3)");
        x.due("on(1)", 3);
        x.due("count(1)", 7);
        x.due("count(6)", 4);
        x.fraction("lacks(0)", 1, 1, 4);
        x.fraction("lacks(2)", 1, 1, 1);
        x.due("undo(2)", 1);
        x.due("count(1)", 4);
        x.due("undo(1)", 1);
        x.fraction("lacks(0)", 1, 3, 4);
        x.due("undo(0)", 1);
        x.due("count(1)", 5);
    }

    static void promise20_stateWithoutWorkers(Run x) {
        for (int k = 0; k < 3; k++) {
            x.state("keep(" + k + ")");
        }
        x.due("count(9)", 0);
    }

    static void promise20_badAheadOfState(Run x) {
        x.badAt("keep(#)", 3, -1, MIN, MAX);
    }

    // ---- 21 on

    static void promise21_asItWasKept(Run x) {
        x.table("05w34e12w11");
        x.pay(0, 2);
        x.call("keep(0)");
        x.pay(2, 3, 4);
        x.call("keep(2)");
        x.call("undo(0)");
        x.call("keep(1)");
        long first = x.call("digest()");
        x.due("on(2)", 6);
        x.tells("worker(2, 3)", 1, 24);
        x.tells("worker(0, 3)", 1, 4);
        x.due("count(1)", 2);
        x.due("count(6)", 28);
        x.due("on(0)", 2);
        x.tells("worker(2, 3)", 1, 0);
        x.tells("worker(0, 3)", 1, 4);
        x.due("count(1)", 4);
        x.due("on(1)", 0);
        x.due("digest()", first);
    }

    static void promise21_deedsCanBeUndone(Run x) {
        x.table("05w34e12w11");
        x.pay(0, 2);
        x.call("lots(5, 3)");
        x.call("keep(0)");
        x.call("undo(0)");
        long first = x.call("digest()");
        x.call("cut(16)");
        x.due("on(0)", 7);
        x.due("undo(2)", 5);
        x.tells("worker(0, 3)", 1, 4);
        x.due("undo(1)", 1);
        x.due("count(6)", 4);
        x.due("undo(0)", 1);
        x.due("digest()", first);
    }

    static void promise21_itIsStillKept(Run x) {
        x.table("05w34e12w11");
        x.pay(0, 2);
        x.call("keep(0)");
        for (int k = 0; k < 3; k++) {
            x.due("on(0)", 2);
            x.due("count(9)", 1);
            x.due("count(6)", 4);
            x.call("cut(7)");
            x.call("back(0, 2)");
        }
    }

    static void promise21_full40(Run x) {
        x.table("20w11w11");
        x.idle(40);
        x.call("keep(2)");
        x.call("undo(0)");
        x.due("cut(2)", 2);
        x.due("on(2)", 40);
        x.full("cut(2)");
    }

    static void promise21_nothing(Run x) {
        for (int k = 0; k < 3; k++) {
            x.finds("on(" + k + ")", NOTHING);
        }
        x.table("05w34e12w11");
        x.call("cut(2)");
        x.call("keep(1)");
        x.finds("on(0)", NOTHING);
        x.finds("on(2)", NOTHING);
        x.due("on(1)", 1);
        x.call("table(3)");
        x.finds("on(1)", NOTHING);
    }

    static void promise21_bad(Run x) {
        x.badAt("on(#)", 3, -1, MIN, MAX);
        x.table("05w34e12w11");
        x.call("keep(0)");
        x.call("keep(2)");
        x.badAt("on(#)", 3, -1, MIN, MAX);
    }
}
