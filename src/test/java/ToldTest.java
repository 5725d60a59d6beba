/** Promises 38 to 44: asked, upper, lower, count, finding, findings, digest. */
public final class ToldTest {
    private static final int NOTHING = Run.NOTHING, BEYOND = Run.BEYOND, UNLIKE = Run.UNLIKE, NOUGHT = Run.NOUGHT,
        SIZE = Run.SIZE;
    private static final int MIN = Run.MIN, MAX = Run.MAX;

    public static void main(String[] args) {
        Tests.runAll(ToldTest.class);
    }

    // ---- 38 asked

    static void promise38_noughtBefore(Run x) {
        x.due("asked()", 0);
        x.finds("at(0, 0)", NOTHING);
        x.bad("worker(0, 0)");
        x.state("need()");
        x.due("asked()", 0);
    }

    static void promise38_whatTheLatestTold(Run x) {
        x.row(0, 12, 20);
        x.tells("at(0, 0)", 1, 12);
        x.tells("lay(0, 1, 5)", 1, 20);
        x.tells("mean(0)", 1, 8);
        x.row(0, 2);
        x.tells("dues(0)", 4, 12);
        x.row(0, 2, 1);
        x.tells("test(0)", 3, 2);
        x.table("20w11w34");
        x.tells("worker(1, 2)", 1, 4);
        x.tells("ways(0)", 5, 6);
        x.call("cut(4)");
        x.tells("greedy(1)", 2, 4);
        x.tells("best()", 2, 1);
        x.call("cut(2)");
        x.tells("serve(1)", 20, 2);
        x.tells("ready()", 2, 1);
        x.tells("need()", 2, 2);
        x.due("asked()", 2);
    }

    static void promise38_othersTellNothing(Run x) {
        x.table("20w34w11");
        x.row(0, 12, 20);
        x.tells("at(0, 1)", 1, 20);
        String[] others = {"row(1, 3)", "copy(0, 0, 1, 0, 2)", "tear(1)", "text(0, 5)", "put(0, 0, 48)", "fault(0)",
            "table(3)", "mark(0, 1)", "takes(0, 2)", "cut(2)", "give(0, 2)", "back(0, 2)", "bake(1)", "undo(0)",
            "keep(0)", "on(0)", "lacks(0)", "writes(1, 1)", "poor()", "row(1, 0)", "kinds(1)", "duel(0, 1, 2)",
            "odds(0, 3)", "mid(0, 3)", "lots(3, 5)", "upper()", "lower()", "count(7)", "finding()", "findings(1)",
            "digest()", "table(3)", "undo(0)"};
        for (String other : others) {
            x.call(other);
            x.is("asked() behind " + other, x.call("asked()"), 20);
        }
    }

    static void promise38_refusedItStays(Run x) {
        x.table("00w34w11");
        x.row(0, 12, 20);
        x.tells("at(0, 1)", 1, 20);
        x.finds("lay(0, 2, 1)", BEYOND);
        x.finds("at(1, 0)", NOTHING);
        x.finds("mean(5)", NOTHING);
        x.bad("worker(2, 0)");
        x.bad("ways(2)");
        x.bad("greedy(-1)");
        x.bad("serve(2)");
        x.state("best()");
        x.finds("dues(0)", UNLIKE);
        x.finds("test(0)", UNLIKE);
        x.due("asked()", 20);
    }

    static void promise38_noneItStays(Run x) {
        x.table("20w91o12");
        x.row(0, 16);
        x.row(1, 7, 1, 7, 0);
        x.tells("at(0, 0)", 1, 16);
        x.none("ways(0)");
        x.none("greedy(0)");
        x.none("serve(0)");
        x.none("best()");
        x.none("dues(0)");
        x.none("test(1)");
        x.due("asked()", 16);
    }

    // ---- 39 upper, 40 lower

    static void promise39_noughtBefore(Run x) {
        x.due("upper()", 0);
        x.bad("lacks(0)");
        x.due("upper()", 0);
    }

    static void promise40_oneBefore(Run x) {
        x.due("lower()", 1);
        x.state("poor()");
        x.due("lower()", 1);
    }

    static void promise39_whatWasToldLast(Run x) {
        x.table("20w34w78");
        x.fraction("lacks(0)", 1, 3, 4);
        x.fraction("poor()", 1, 7, 8);
        x.pay(0, 2);
        x.fraction("mid(0, 4)", 1, 1, 3);
        x.fraction("odds(0, 3)", 1, 3, 4);
        x.fraction("lacks(0)", 1, 1, 4);
    }

    static void promise39_othersLeaveIt(Run x) {
        x.table("20w34w78");
        x.fraction("poor()", 1, 7, 8);
        String[] others = {"row(0, 3)", "lay(0, 0, 5)", "mean(0)", "worker(0, 1)", "cut(2)", "give(0, 2)", "keep(0)",
            "undo(0)", "on(0)", "ways(0)", "writes(0, 1)", "greedy(0)", "serve(0)", "need()", "ready()", "best()",
            "dues(1)", "kinds(0)", "test(0)", "duel(0, 1, 2)", "lots(3, 5)", "digest()", "table(3)"};
        for (String other : others) {
            x.call(other);
            x.is("upper() behind " + other, x.call("upper()"), 7);
            x.is("lower() behind " + other, x.call("lower()"), 8);
        }
    }

    static void promise39_refusedItStays(Run x) {
        x.table("20w34w78");
        x.fraction("poor()", 1, 7, 8);
        x.bad("lacks(2)");
        x.bad("odds(0, 13)");
        x.bad("mid(0, -1)");
        x.due("upper()", 7);
        x.due("lower()", 8);
    }

    static void promise40_noughtIsByOne(Run x) {
        x.table("20w12w78");
        x.pay(0, 2);
        x.fraction("lacks(1)", 1, 7, 8);
        x.fraction("lacks(0)", 1, 0, 1);
        x.fraction("lacks(1)", 1, 7, 8);
        x.fraction("odds(0, 12)", 1, 0, 1);
        x.fraction("lacks(1)", 1, 7, 8);
        x.fraction("mid(1, 3)", 1, 0, 1);
    }

    static void promise40_aWholeIsByOne(Run x) {
        x.table("20w99w81");
        x.fraction("lacks(0)", 1, 1, 1);
        x.fraction("lacks(1)", 1, 8, 1);
    }

    // ---- 41 count

    static void promise41_eachWhat(Run x) {
        x.table("30w12e34o11s23c12m58e11");
        x.pay(0, 2);
        x.pay(4, 2);
        x.pay(2, 3);
        x.call("keep(1)");
        x.call("row(0, 0)");
        x.call("row(4, 40)");
        x.call("text(0, 0)");
        int[] counts = {7, 27, 6, 4, 3, 17, 12, 2, 2, 1, 3, 2};
        for (int what = 0; what < 12; what++) {
            x.due("count(" + what + ")", counts[what]);
        }
    }

    static void promise41_bad(Run x) {
        x.badAt("count(#)", 12, -1, MIN, MAX);
        x.table("30w12e34");
        x.due("count(0)", 2);
        x.due("count(11)", 0);
        x.badAt("count(#)", 12, -1, MIN, MAX);
    }

    static void promise41_deedsUpTo40(Run x) {
        x.table("30w12e34");
        x.idle(40);
        x.due("count(2)", 40);
        x.call("undo(3)");
        x.due("count(2)", 3);
    }

    static void promise41_partsAndWhichD(Run x) {
        x.table("30w11e11");
        x.call("cut(2)");
        x.call("cut(16)");
        x.due("count(3)", 18);
        x.due("count(6)", 1 << 2 | 1 << 16);
        x.call("give(0, 2)");
        x.due("count(3)", 17);
        x.due("count(4)", 1);
        x.due("count(6)", 1 << 2 | 1 << 16);
        x.call("give(1, 2)");
        x.due("count(4)", 2);
        x.due("count(6)", 1 << 16);
    }

    static void promise41_whoIsPaid(Run x) {
        x.table("30w11w12w11w11w11w11w12");
        x.due("count(5)", 0);
        x.pay(6, 2);
        x.due("count(5)", 64);
        x.call("give(1, 2)");
        x.due("count(5)", 66);
        x.call("give(0, 2)");
        x.due("count(5)", 66);
        x.call("back(6, 2)");
        x.due("count(5)", 2);
    }

    static void promise41_rowsTextsKeptTables(Run x) {
        x.table("30w11e11");
        for (int k = 0; k < 6; k++) {
            x.call("row(" + k + ", " + k + ")");
            x.call("text(" + k % 4 + ", " + k + ")");
            x.call("keep(" + k % 3 + ")");
            x.due("count(7)", k + 1);
        }
        x.due("count(8)", 4);
        x.due("count(9)", 3);
        x.call("tear(0)");
        x.due("count(7)", 5);
    }

    static void promise41_eyesAndShyOnes(Run x) {
        x.table("30e11c11c11w11o11");
        x.due("count(10)", 3);
        x.due("count(11)", 0);
        x.table("30s11m11m11w11o11");
        x.due("count(10)", 0);
        x.due("count(11)", 3);
        x.table("30w11o11");
        x.due("count(10)", 0);
        x.due("count(11)", 0);
    }

    // ---- 42 finding, 43 findings

    static void promise42_noughtBeforeAny(Run x) {
        x.due("finding()", 0);
        x.bad("row(6, 0)");
        x.state("cut(2)");
        x.due("finding()", 0);
    }

    static void promise42_theLatest(Run x) {
        x.finds("at(0, 0)", NOTHING);
        x.row(0, 1);
        x.finds("at(0, 1)", BEYOND);
        x.finds("dues(0)", UNLIKE);
        x.call("row(0, 0)");
        x.finds("mean(0)", NOUGHT);
        x.finds("row(0, -1)", SIZE);
        x.finds("at(0, 0)", BEYOND);
    }

    static void promise42_otherAnswersLeaveIt(Run x) {
        x.finds("at(0, 0)", NOTHING);
        x.due("row(0, 0)", 0);
        x.due("finding()", 1);
        x.bad("row(0, 41)");
        x.state("cut(2)");
        x.none("dues(0)");
        x.table("30w11w11");
        x.idle(40);
        x.full("cut(2)");
        x.due("finding()", 1);
    }

    static void promise43_howOftenEach(Run x) {
        x.call("at(0, 0)");
        x.call("at(0, 0)");
        x.call("row(0, 0)");
        x.call("at(0, 0)");
        x.row(1, 1);
        x.call("dues(1)");
        x.call("mean(0)");
        x.call("mean(0)");
        for (int k = 0; k < 100; k++) {
            x.call("row(0, -1)");
        }
        int[] often = {2, 1, 1, 2, 100};
        for (int f = 1; f <= 5; f++) {
            x.due("findings(" + f + ")", often[f - 1]);
        }
    }

    static void promise43_noneBefore(Run x) {
        for (int f = 1; f <= 5; f++) {
            x.due("findings(" + f + ")", 0);
        }
    }

    static void promise43_aTableAnewLeavesThem(Run x) {
        x.call("at(0, 0)");
        x.table("30w11w11");
        x.call("undo(0)");
        x.due("findings(1)", 1);
        x.due("finding()", 1);
    }

    static void promise43_bad(Run x) {
        x.call("at(0, 0)");
        x.due("findings(1)", 1);
        x.due("findings(5)", 0);
        x.badAt("findings(#)", 0, 6, -1, MIN, MAX);
    }

    // ---- 44 digest

    private static long digestOf(int... values) {
        long h = 17;
        for (int v : values) {
            h = 31 * h + v;
        }
        return h;
    }

    static void promise44_ofANewObject(Run x) {
        x.due("digest()", digestOf(0, 0, 0, 0, 0, 0, 0, 0, 0, 0, 0, 0,
            0, 0, 0, 0, 0, 0, 0, 0, 0, 0, 0, 0, 0, 0, 0,
            -1, -1, -1, -1, -1, -1, -1, -1, -1, -1, -1, -1, -1));
    }

    static void promise44_allThatItIsOf(Run x) {
        x.table("30w12e34");
        x.pay(0, 2);
        x.call("cut(16)");
        x.call("keep(1)");
        x.row(2, -7, 8, MIN, MAX);
        x.call("text(0, 1)");
        x.call("put(0, 0, 200)");
        x.due("digest()", digestOf(2, 28, 3, 17, 1, 1, 65540, 1, 2, 1, 1, 0,
            0, 1, 2, 4, 0, 1,
            1, 3, 4, 0, 65540, 0,
            1, 0, 0, 0, 0, 0, 0, 0, 0, 0, 0, 0, 0, 0, 16,
            -1, 3, -1,
            -1, -1, 4, -7, 8, MIN, MAX, -1, -1, -1,
            1, -56, -1, -1, 8, '3', '0', 'w', '1', '2', 'e', '3', '4'));
    }

    static void promise44_ofNoneIsNotMissing(Run x) {
        x.call("row(0, 0)");
        x.call("text(3, 0)");
        x.due("digest()", digestOf(0, 0, 0, 0, 0, 0, 0, 1, 1, 0, 0, 0,
            0, 0, 0, 0, 0, 0, 0, 0, 0, 0, 0, 0, 0, 0, 0,
            -1, -1, -1, 0, -1, -1, -1, -1, -1, -1, -1, -1, 0));
    }

    static void promise44_ofAKeptTableHowManyDeeds(Run x) {
        x.table("00w12e34");
        x.idle(2);
        x.call("keep(2)");
        x.call("undo(1)");
        x.call("keep(0)");
        x.call("undo(0)");
        x.call("text(3, 0)");
        x.due("digest()", digestOf(2, 0, 0, 0, 0, 0, 0, 0, 1, 2, 1, 0,
            0, 1, 2, 0, 0, 0,
            1, 3, 4, 0, 0, 0,
            0, 0, 0, 0, 0, 0, 0, 0, 0, 0, 0, 0, 0, 0, 0,
            1, -1, 2,
            -1, -1, -1, -1, -1, -1, -1, -1, -1, 0));
    }

    static void promise44_changesNothing(Run x) {
        x.row(2, 7, 8);
        x.call("at(2, 1)");
        x.table("30w12e34");
        x.fraction("lacks(1)", 1, 3, 4);
        long first = x.call("digest()");
        x.due("digest()", first);
        x.due("asked()", 8);
        x.due("upper()", 3);
        x.due("lower()", 4);
        x.due("finding()", 0);
    }

    static void promise44_isOfNothingElse(Run x) {
        x.table("30w12e34");
        long first = x.call("digest()");
        x.tells("worker(0, 2)", 1, 2);
        x.fraction("lacks(1)", 1, 3, 4);
        x.finds("at(0, 0)", NOTHING);
        x.due("digest()", first);
    }
}
