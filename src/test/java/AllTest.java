/** Promises 27 to 30: need, poor, ready, best. */
public final class AllTest {
    public static void main(String[] args) {
        Tests.runAll(AllTest.class);
    }

    // ---- 27 need

    /** Halves for two come of one LOAF, for three of two; sevenths for seven of one. */
    static void promise27_asManyAsComeOfALoaf(Run x) {
        x.table("00w12w12");
        x.tells("need()", 1, 2);
        x.table("00w12w12w12");
        x.tells("need()", 2, 3);
        x.table("00w12w12w12w12w12w12w12");
        x.tells("need()", 4, 7);
        x.table("00w17w17w17w17w17w17w17");
        x.tells("need()", 1, 7);
        x.table("00w16w16w16w16w16w16w16");
        x.tells("need()", 2, 7);
    }

    static void promise27_ofEachDByItself(Run x) {
        x.table("00w11e34");
        x.tells("need()", 4, 2);
        x.table("00w32w85");
        x.tells("need()", 8, 2);
    }

    static void promise27_whatIsOnTheTableIsCounted(Run x) {
        x.table("20w12w12w12w12");
        x.tells("need()", 2, 4);
        x.call("cut(2)");
        x.tells("need()", 1, 4);
        x.call("cut(2)");
        x.tells("need()", 0, 4);
        x.call("cut(2)");
        x.tells("need()", 0, 4);
        x.call("undo(1)");
        x.call("give(0, 2)");
        x.tells("need()", 1, 4);
    }

    static void promise27_oneOnTheTableIsOneLess(Run x) {
        x.table("20w13w13w13w13w13");
        x.tells("need()", 2, 5);
        x.call("cut(3)");
        x.tells("need()", 1, 5);
        x.call("give(0, 3)");
        x.tells("need()", 1, 5);
        x.call("cut(3)");
        x.tells("need()", 0, 5);
        x.call("back(0, 3)");
        x.tells("need()", 0, 5);
    }

    static void promise27_whoHasNoneGetsNothing(Run x) {
        x.table("00o11w12w91");
        x.tells("need()", 1, 1);
        x.table("00o11w91");
        x.tells("need()", 0, 0);
    }

    static void promise27_whoIsPaidCan(Run x) {
        x.table("20w12o11");
        x.pay(0, 2);
        x.tells("need()", 0, 1);
    }

    static void promise27_asByWrites(Run x) {
        x.table("20w23w23");
        x.tells("need()", 2, 2);
        x.pay(0, 3);
        x.tells("need()", 4, 2);
    }

    static void promise27_moreThanThereAreLoaves(Run x) {
        x.table("00w11w11");
        x.tells("need()", 3, 2);
        x.due("count(1)", 0);
    }

    static void promise27_stateWithoutWorkers(Run x) {
        x.state("need()");
    }

    // ---- 28 poor

    static void promise28_theFirstOfLike(Run x) {
        x.table("20w12w34e34w68");
        x.fraction("poor()", 1, 3, 4);
        x.pay(1, 16);
        x.fraction("poor()", 2, 3, 4);
        x.pay(2, 2);
        x.fraction("poor()", 3, 3, 4);
        x.pay(3, 16);
        x.fraction("poor()", 1, 11, 16);
    }

    static void promise28_theFirstAndTheLast(Run x) {
        x.table("20w91w11w11w11w11w11w81");
        x.fraction("poor()", 0, 9, 1);
        x.table("20w81w11w11w11w11w11w91");
        x.fraction("poor()", 6, 9, 1);
        x.table("20w12w34");
        x.fraction("poor()", 1, 3, 4);
    }

    static void promise28_nobodyLacks(Run x) {
        x.table("20w12w12");
        x.call("cut(2)");
        x.call("give(0, 2)");
        x.fraction("poor()", 1, 1, 2);
        x.call("give(1, 2)");
        x.fraction("poor()", 0, 0, 1);
    }

    static void promise28_stateWithoutWorkers(Run x) {
        x.state("poor()");
    }

    // ---- 29 ready

    static void promise29_nobody(Run x) {
        x.table("20w12e12");
        x.tells("ready()", 0, 0);
        x.call("cut(3)");
        x.tells("ready()", 0, 0);
    }

    static void promise29_eachAsIfAlone(Run x) {
        x.table("20w12e12w12w12w12w12w12");
        x.call("cut(2)");
        x.tells("ready()", 127, 7);
        x.call("give(3, 2)");
        x.tells("ready()", 127, 7);
        x.call("give(0, 2)");
        x.tells("ready()", 1 | 8, 2);
    }

    static void promise29_whoTakesIt(Run x) {
        x.table("20w12e34o12s12");
        x.call("cut(2)");
        x.tells("ready()", 1, 1);
        x.call("cut(4)");
        x.tells("ready()", 3, 2);
        x.call("cut(6)");
        x.tells("ready()", 3, 2);
        x.call("cut(12)");
        x.tells("ready()", 11, 3);
    }

    static void promise29_whoIsPaidAlready(Run x) {
        x.table("20w11w12");
        x.pay(1, 2);
        x.tells("ready()", 2, 1);
        x.call("undo(0)");
        x.tells("ready()", 0, 0);
    }

    static void promise29_stateWithoutWorkers(Run x) {
        x.state("ready()");
    }

    // ---- 30 best

    static void promise30_mostCanBePaid(Run x) {
        x.table("20w12s14s14e34");
        x.tells("best()", 4, 2);
        x.call("cut(4)");
        x.tells("best()", 2, 4);
    }

    static void promise30_theFirstOfLike(Run x) {
        x.table("20w14w15w16w17");
        x.tells("best()", 4, 1);
        x.table("20w19w18w17o16");
        x.tells("best()", 7, 1);
    }

    static void promise30_theLeastD(Run x) {
        x.table("20w12e12");
        x.tells("best()", 2, 2);
    }

    /** 2 by 5 less 1 by 3 is 1 by 15. A sixteenth alone never pays: nothing that is DUE less other PARTS is so little. */
    static void promise30_theGreatestD(Run x) {
        x.table("20w25w11");
        x.pay(0, 3);
        x.tells("best()", 15, 1);
    }

    static void promise30_withWhatLiesThere(Run x) {
        x.table("20w34w34");
        x.none("best()");
        x.call("cut(2)");
        x.tells("best()", 4, 2);
        x.call("undo(0)");
        x.call("cut(4)");
        x.tells("best()", 2, 2);
    }

    static void promise30_noneByNoDMoreThanNow(Run x) {
        x.table("20w91o12");
        x.none("best()");
        x.table("20w12w12");
        x.tells("best()", 2, 2);
        x.call("cut(2)");
        x.none("best()");
        x.call("give(0, 2)");
        x.none("best()");
        x.call("give(1, 2)");
        x.none("best()");
        x.due("asked()", 2);
    }

    static void promise30_whoIsPaidIsCounted(Run x) {
        x.table("20w12w13w11");
        x.pay(0, 2);
        x.tells("best()", 3, 2);
    }

    static void promise30_stateWithoutLoaves(Run x) {
        x.table("01w12w13");
        x.tells("best()", 2, 1);
        x.call("cut(16)");
        x.state("best()");
        x.call("bake(1)");
        x.tells("best()", 2, 1);
        x.table("00w12w13");
        x.state("best()");
    }

    static void promise30_stateWithoutWorkers(Run x) {
        x.state("best()");
    }

    static void promise30_itIsAside(Run x) {
        x.table("01w12w13");
        long before = x.call("digest()");
        x.tells("best()", 2, 1);
        x.due("digest()", before);
        x.tells("need()", 2, 2);
        x.fraction("poor()", 0, 1, 2);
        x.tells("ready()", 0, 0);
        x.due("digest()", before);
    }

    static void promise30_roomForDeedsIsNotAsked(Run x) {
        x.table("01w12w13");
        x.idle(40);
        x.tells("best()", 2, 1);
    }
}
