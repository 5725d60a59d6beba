import java.util.List;

/** What "Terms" says of many calls at once. */
public final class TermsTest {
    private static final int NOTHING = Run.NOTHING, BEYOND = Run.BEYOND, UNLIKE = Run.UNLIKE, NOUGHT = Run.NOUGHT,
        SIZE = Run.SIZE;
    private static final int[] NUMBERS = {Run.MIN, -1, 0, 1, 2, 6, 13, 41, Run.MAX};
    private static final int[] FEWER = {Run.MIN, -1, 0, 1, 2, Run.MAX};
    private static final List<String> BY_ONE = List.of("tear", "mean", "fault", "table", "cut", "bake", "undo", "keep",
        "on", "lacks", "ways", "greedy", "serve", "dues", "kinds", "test", "count", "findings");
    private static final List<String> BY_TWO = List.of("row", "at", "text", "worker", "mark", "takes", "give", "back",
        "writes", "odds", "mid", "lots");
    private static final List<String> BY_THREE = List.of("lay", "put", "duel");

    public static void main(String[] args) {
        Tests.runAll(TermsTest.class);
    }

    static void terms_theConstants(Run x) {
        x.is("BAD", LoafParts.BAD, -1);
        x.is("FULL", LoafParts.FULL, -2);
        x.is("FINDING", LoafParts.FINDING, -3);
        x.is("STATE", LoafParts.STATE, -4);
        x.is("SPENT", LoafParts.SPENT, -6);
        x.is("NONE", LoafParts.NONE, -9);
    }

    static void terms_theFindings(Run x) {
        x.finds("at(0, 0)", NOTHING);
        x.finds("fault(0)", NOTHING);
        x.finds("on(0)", NOTHING);
        x.row(0, 1);
        x.finds("at(0, 1)", BEYOND);
        x.table("20w11w11");
        x.finds("mark(0, 1)", UNLIKE);
        x.finds("dues(0)", UNLIKE);
        x.call("row(1, 0)");
        x.finds("mean(1)", NOUGHT);
        x.finds("row(0, -1)", SIZE);
        x.finds("kinds(0)", SIZE);
        int[] often = {3, 1, 2, 1, 2};
        for (int f = 1; f <= 5; f++) {
            x.due("findings(" + f + ")", often[f - 1]);
        }
    }

    static void terms_setsAreToldByBits(Run x) {
        x.table("20w12w12w12w12w12w12w12");
        x.call("cut(2)");
        x.call("cut(16)");
        x.due("count(6)", 65540);
        x.tells("worker(6, 4)", 1, 65540);
        x.tells("ready()", 127, 7);
        x.call("give(6, 2)");
        x.due("count(5)", 64);
        x.call("row(0, 0)");
        x.due("kinds(0)", 63);
    }

    /** Of LOAVES 00 to 99, of a 1 to 9, of b 1 to 9. */
    static void terms_theSmallestTableAndTheGreatest(Run x) {
        x.table("00w11w11");
        x.due("count(0)", 2);
        x.due("count(1)", 0);
        x.table("99 w99 e99 o99 s99 c99 m99 w19");
        x.due("count(0)", 7);
        x.due("count(1)", 99);
        x.tells("worker(6, 1)", 1, 1);
        x.tells("worker(6, 2)", 1, 9);
        x.tells("worker(5, 1)", 1, 9);
    }

    static void terms_atFirstNoPartsAreThere(Run x) {
        x.table("99 w99 e99 o99 s99 c99 m99 w19");
        x.due("count(3)", 0);
        x.due("count(4)", 0);
        x.due("count(6)", 0);
        x.due("count(2)", 0);
    }

    /** The dearest state: all there is room for, and the 512th call still answers. */
    static void terms_512Calls(Run x) {
        x.table("99 w91 w91 w91 w91 w91 w91 w91");
        for (int d = 2; d <= 16; d++) {
            x.call("cut(" + d + ")");
        }
        for (int d = 2; d <= 16; d++) {
            x.call("give(0, " + d + ")");
        }
        x.call("lots(10, 7)");
        for (int k = 0; k < 3; k++) {
            x.call("keep(" + k + ")");
        }
        while (x.calls() < 510) {
            x.due("undo(40)", 0);
            x.is("duel(1, 2, 4)", x.call("duel(1, 2, 4)") > 0 ? 1 : 0, 1);
        }
        if (x.calls() == 510) {
            x.due("on(1)", 40);
        }
        x.due("count(2)", 40);
        x.is("calls", x.calls(), 512);
    }

    static void terms_refusedChangesNothingWithoutWorkers(Run x) {
        eachCall(x, new String[0]);
    }

    static void terms_refusedChangesNothingWithWorkers(Run x) {
        eachCall(x, "table", "row(0, 0)", "row(1, 2)", "row(2, 3)", "text(0, 2)", "cut(2)", "give(0, 2)", "keep(1)",
            "at(1, 0)", "lacks(0)");
    }

    static void terms_refusedChangesNothingIfAllIsFull(Run x) {
        eachCall(x, "table", "row(0, 40)", "row(1, 40)", "text(0, 60)", "cut(2)", "give(0, 2)", "lots(20, 5)",
            "lots(18, 6)", "keep(0)", "keep(1)", "keep(2)", "lacks(0)");
    }

    /** Every call with every mixture of such numbers, each behind these calls: it never throws, is never SPENT. */
    private static void eachCall(Run x, String... ahead) {
        for (String name : List.of("need", "poor", "ready", "best", "asked", "upper", "lower", "finding", "digest")) {
            tryIt(x, ahead, name + "()");
        }
        for (String name : BY_ONE) {
            for (int a : NUMBERS) {
                tryIt(x, ahead, name + "(" + a + ")");
            }
        }
        for (int a : NUMBERS) {
            for (int b : NUMBERS) {
                for (String name : BY_TWO) {
                    tryIt(x, ahead, name + "(" + a + ", " + b + ")");
                }
            }
        }
        for (int a : FEWER) {
            for (int b : FEWER) {
                for (int c : FEWER) {
                    for (String name : BY_THREE) {
                        tryIt(x, ahead, name + "(" + a + ", " + b + ", " + c + ")");
                    }
                    tryIt(x, ahead, "copy(0, " + a + ", 1, " + b + ", " + c + ")");
                    tryIt(x, ahead, "copy(" + a + ", 0, " + b + ", 1, " + c + ")");
                }
            }
        }
    }

    private static void tryIt(Run x, String[] ahead, String call) {
        x.fresh();
        for (String one : ahead) {
            if (one.equals("table")) {
                x.table("05w34e12o11");
            } else {
                x.call(one);
            }
        }
        x.refusedOrNot(call);
    }
}
