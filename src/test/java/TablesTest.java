/** Promises 10 to 14: fault, table, worker, mark, takes. */
public final class TablesTest {
    private static final int NOTHING = Run.NOTHING, UNLIKE = Run.UNLIKE;
    private static final int MIN = Run.MIN, MAX = Run.MAX, NONE = LoafParts.NONE;
    private static final String ALL_KINDS = "30w11e11o11s11c11m11";
    private static final String[] TAKEN = {
        "2 3 4 5 6 7 8 9 10 11 12 13 14 15 16", "2 4 8 16", "3 5 7 9 11 13 15", "4 5 6 7 8 9 10 11 12 13 14 15 16",
        "2 3 4 6 8 12 16", "4 6 8 10 12 14 16"};

    public static void main(String[] args) {
        Tests.runAll(TablesTest.class);
    }

    /** The FAULT is at this place, and the TEXT makes a TABLE only if there is none. */
    private static void faultIs(Run x, String text, int want) {
        x.text(2, text);
        x.due("fault(2)", want);
        if (want != NONE) {
            x.state("table(2)");
        }
    }

    /** Of all bytes at the place of the ? the fine ones make no FAULT, the next ones one behind it, others one there. */
    private static void eachByte(Run x, String text, String fine, String next) {
        int place = text.indexOf('?');
        for (int v = -128; v < 128; v++) {
            if (v % 128 == 0) {
                x.fresh();
                x.text(0, text.replace('?', ' '));
            }
            x.call("put(0, " + place + ", " + v + ")");
            boolean goesOn = v > 0 && fine.indexOf(v) >= 0;
            boolean goesFarther = v > 0 && next.indexOf(v) >= 0;
            x.due("fault(0)", goesOn ? NONE : goesFarther ? place + 1 : place);
        }
    }

    // ---- 10 fault

    static void promise10_none(Run x) {
        faultIs(x, "05 w11 e23", NONE);
        faultIs(x, "05w11e12o13s14c15m16w17", NONE);
    }

    static void promise10_blanksAheadBetweenBehind(Run x) {
        faultIs(x, "   99   w11     e99     ", NONE);
        faultIs(x, " 99 w11 e99 ", NONE);
        faultIs(x, "99w11e99", NONE);
        faultIs(x, "99w11e99" + " ".repeat(52), NONE);
        faultIs(x, " ".repeat(52) + "99w11e99", NONE);
    }

    static void promise10_noBlanksWithinItems(Run x) {
        faultIs(x, "7 7w11w11", 1);
        faultIs(x, "77w 11w11", 3);
        faultIs(x, "77w1 1w11", 4);
        faultIs(x, "77w11w 11", 6);
        faultIs(x, "77w11w1 1", 7);
    }

    static void promise10_twoFiguresOfLoaves(Run x) {
        faultIs(x, "00w11w11", NONE);
        faultIs(x, "99w11w11", NONE);
        faultIs(x, "7w11w11", 1);
        faultIs(x, "777w11w11", 2);
        faultIs(x, "w11w11", 0);
        faultIs(x, "  w11w11", 2);
    }

    static void promise10_aFigureThatIsNoneSuch(Run x) {
        // By a blank there the first figure is the 5, the second one is missing.
        x.text(1, " 5w11w11");
        x.due("fault(1)", 2);
        eachByte(x, " ?:w11w11", "", "0123456789 ");
        eachByte(x, "?:w11w11", "", "0123456789 ");
        eachByte(x, "5?w11w11", "0123456789", "");
        eachByte(x, "55w?1w11", "123456789", "");
        eachByte(x, "55w1?w11", "123456789", "");
        eachByte(x, "55w11w?1", "123456789", "");
        eachByte(x, "55w11w1?", "123456789", "");
    }

    static void promise10_aLetterThatIsNoneSuch(Run x) {
        eachByte(x, "55?11w11w11", "weoscm", " ");
        eachByte(x, "55w11?11w11", "weoscm", " ");
        eachByte(x, "55 w11 ?11 w11", "weoscm", " ");
    }

    static void promise10_whatIsBehindAWorker(Run x) {
        faultIs(x, "77w111w11", 5);
        faultIs(x, "77w11w111", 8);
        eachByte(x, "55w11w11?", " ", "weoscm");
        eachByte(x, "55w11 w11 ? ", " ", "weoscm");
    }

    static void promise10_twoToSevenWorkers(Run x) {
        for (int workers = 0; workers <= 8; workers++) {
            String text = "77" + "w11".repeat(workers);
            faultIs(x, text, workers < 2 ? text.length() : workers <= 7 ? NONE : text.length() - 3);
        }
    }

    static void promise10_anEighthWorkersPlace(Run x) {
        String seven = "77" + "w11".repeat(7);
        faultIs(x, seven + "w11", 23);
        faultIs(x, seven + "w", 23);
        faultIs(x, seven + "  w11", 25);
        faultIs(x, seven + "  w11w11", 25);
        faultIs(x, seven + " ?", 24);
        faultIs(x, seven + "   ", NONE);
    }

    static void promise10_theSizeIfItsEndComesTooEarly(Run x) {
        faultIs(x, "", 0);
        faultIs(x, "7", 1);
        faultIs(x, "  7", 3);
        faultIs(x, "77", 2);
        faultIs(x, "77w", 3);
        faultIs(x, "77w1", 4);
        faultIs(x, "77w11w", 6);
        faultIs(x, "77w11w1", 7);
        faultIs(x, "77w11w11w", 9);
        faultIs(x, "77w11w11w1", 10);
    }

    static void promise10_theSizeIfThereAreLessThanTwoWorkers(Run x) {
        faultIs(x, "77  ", 4);
        faultIs(x, "77w11", 5);
        faultIs(x, "77w11   ", 8);
        faultIs(x, "77 w11" + " ".repeat(54), 60);
    }

    static void promise10_theSizeOfBlanksAlone(Run x) {
        faultIs(x, " ", 1);
        faultIs(x, "    ", 4);
        faultIs(x, " ".repeat(60), 60);
    }

    static void promise10_theFirstOfSome(Run x) {
        faultIs(x, "7xw00?", 1);
        faultIs(x, "77w00?", 3);
        faultIs(x, "77w10?", 4);
    }

    static void promise10_atTheLastPlaceOf60(Run x) {
        faultIs(x, "77w11" + " ".repeat(52) + "e11", NONE);
        faultIs(x, "77w11" + " ".repeat(53) + "e1", 60);
        faultIs(x, "77w11w11" + " ".repeat(51) + "?", 59);
    }

    static void promise10_ofEachText(Run x) {
        for (int t = 0; t < 4; t++) {
            x.call("text(" + t + ", " + (t + 1) + ")");
        }
        for (int t = 0; t < 4; t++) {
            x.due("fault(" + t + ")", t + 1);
        }
    }

    static void promise10_changesNothing(Run x) {
        x.table("09w12e34");
        x.pay(0, 2);
        x.call("keep(0)");
        x.text(0, "05s11s11s11");
        long before = x.call("digest()");
        x.none("fault(0)");
        x.due("digest()", before);
        x.due("count(1)", 8);
        x.due("count(11)", 0);
    }

    static void promise10_nothing(Run x) {
        x.text(0, "05w11w11");
        x.finds("fault(1)", NOTHING);
        x.finds("fault(3)", NOTHING);
    }

    static void promise10_bad(Run x) {
        x.text(0, "05w11w11");
        x.badText("fault(#)");
    }

    // ---- 11 table

    static void promise11_howManyWorkers(Run x) {
        for (int workers = 2; workers <= 7; workers++) {
            x.text(0, "77" + "w11".repeat(workers));
            x.due("table(0)", workers);
            x.due("count(0)", workers);
        }
    }

    static void promise11_stateIfThereIsAFault(Run x) {
        x.text(0, "77w11");
        x.state("table(0)");
        x.text(0, "77" + "w11".repeat(8));
        x.state("table(0)");
        x.call("text(0, 0)");
        x.state("table(0)");
    }

    static void promise11_refusedTheTableStays(Run x) {
        x.table("42w34e34");
        x.pay(0, 2);
        x.call("keep(1)");
        x.text(0, "07s11s11s11s1");
        x.state("table(0)");
        x.finds("table(1)", NOTHING);
        x.bad("table(4)");
        x.due("count(0)", 2);
        x.due("count(1)", 41);
        x.due("count(2)", 2);
        x.due("count(9)", 1);
        x.fraction("lacks(0)", 1, 1, 4);
        x.tells("worker(1, 0)", 1, 1);
    }

    static void promise11_loaves(Run x) {
        for (int loaves : new int[] {0, 1, 9, 10, 42, 90, 99}) {
            x.text(0, (loaves < 10 ? "0" : "") + loaves + "w11w11");
            x.due("table(0)", 2);
            x.due("count(1)", loaves);
        }
    }

    static void promise11_anew(Run x) {
        x.table("42w12e34w11");
        x.pay(0, 2);
        x.pay(1, 2, 4);
        x.call("cut(16)");
        x.text(1, "07o11s99");
        x.due("table(1)", 2);
        int[] counts = {2, 7, 0, 0, 0, 0, 0, 0, 2, 0, 0, 1};
        for (int what = 0; what < 12; what++) {
            x.due("count(" + what + ")", counts[what]);
        }
        x.fraction("lacks(0)", 1, 1, 1);
        x.bad("worker(2, 0)");
        x.bad("undo(1)");
    }

    static void promise11_anewByTheSameText(Run x) {
        x.table("42w12e34w11");
        long first = x.call("digest()");
        x.pay(0, 2);
        x.call("lots(9, 4)");
        x.due("table(3)", 3);
        x.due("digest()", first);
    }

    static void promise11_keptTablesGo(Run x) {
        x.table("42w12e34");
        x.call("keep(0)");
        x.call("keep(1)");
        x.call("keep(2)");
        x.due("count(9)", 3);
        x.due("table(3)", 2);
        x.due("count(9)", 0);
        for (int k = 0; k < 3; k++) {
            x.finds("on(" + k + ")", NOTHING);
        }
    }

    static void promise11_theTextMayChangeBehind(Run x) {
        x.table("42w12e34");
        x.call("put(3, 2, 111)");
        x.call("put(3, 0, 57)");
        x.due("count(1)", 42);
        x.tells("worker(0, 0)", 1, 0);
        x.call("text(3, 0)");
        x.due("count(0)", 2);
        x.due("cut(2)", 2);
    }

    static void promise11_nothingAheadOfState(Run x) {
        x.finds("table(0)", NOTHING);
        x.finds("table(3)", NOTHING);
        x.call("text(0, 0)");
        x.state("table(0)");
        x.finds("table(1)", NOTHING);
    }

    static void promise11_bad(Run x) {
        x.text(0, "77w11w11");
        x.badText("table(#)");
    }

    // ---- 12 worker

    static void promise12_kindAAndB(Run x) {
        x.table("20w34e12o23s14c56m99w91");
        int[][] facts = {{0, 3, 4}, {1, 1, 2}, {2, 2, 3}, {3, 1, 4}, {4, 5, 6}, {5, 9, 9}, {0, 9, 1}};
        for (int i = 0; i < 7; i++) {
            for (int what = 0; what < 3; what++) {
                x.tells("worker(" + i + ", " + what + ")", 1, facts[i][what]);
            }
        }
    }

    static void promise12_atFirstNobodyHasAny(Run x) {
        x.table("20w34e12o23s14c56m99w11");
        for (int i = 0; i < 7; i++) {
            for (int what = 3; what <= 5; what++) {
                x.tells("worker(" + i + ", " + what + ")", 1, 0);
            }
        }
    }

    static void promise12_partsThatItHas(Run x) {
        x.table("20w52w11");
        x.pay(0, 2, 16);
        x.tells("worker(0, 3)", 1, 1 << 2 | 1 << 16);
        x.tells("worker(1, 3)", 1, 0);
        x.call("back(0, 2)");
        x.tells("worker(0, 3)", 1, 1 << 16);
    }

    static void promise12_fitIsWhatItTakes(Run x) {
        x.table("30w91e91o91s91c91m91");
        for (int d = 2; d <= 16; d++) {
            x.call("cut(" + d + ")");
        }
        for (int i = 0; i < 6; i++) {
            int bits = 0;
            for (String d : TAKEN[i].split(" ")) {
                bits |= 1 << Integer.parseInt(d);
            }
            x.tells("worker(" + i + ", 4)", 1, bits);
        }
    }

    static void promise12_fitIsWhatItHasNoneOf(Run x) {
        x.table("30w91w91");
        x.call("cut(3)");
        x.call("cut(5)");
        x.tells("worker(0, 4)", 1, 1 << 3 | 1 << 5);
        x.call("give(0, 3)");
        x.tells("worker(0, 4)", 1, 1 << 5);
        x.tells("worker(1, 4)", 1, 1 << 3 | 1 << 5);
    }

    static void promise12_fitIsNoMoreThanItLacks(Run x) {
        x.table("30w13w12w14w59");
        x.call("cut(2)");
        x.call("cut(3)");
        x.call("cut(4)");
        x.call("cut(9)");
        x.tells("worker(0, 4)", 1, 1 << 3 | 1 << 4 | 1 << 9);
        x.tells("worker(1, 4)", 1, 1 << 2 | 1 << 3 | 1 << 4 | 1 << 9);
        x.tells("worker(2, 4)", 1, 1 << 4 | 1 << 9);
        x.call("give(3, 2)");
        x.tells("worker(3, 4)", 1, 0);
        x.call("cut(16)");
        x.tells("worker(3, 4)", 1, 0);
    }

    /** 1 by 7 less 1 by 13 is between a sixteenth and a fifteenth. */
    static void promise12_fitIsTheSixteenthAlone(Run x) {
        x.table("09w17w91");
        x.call("cut(16)");
        x.call("cut(15)");
        x.pay(0, 13);
        x.tells("worker(0, 4)", 1, 1 << 16);
    }

    static void promise12_fitLiesOnTheTable(Run x) {
        x.table("30w12w91w91");
        x.tells("worker(1, 4)", 1, 0);
        x.call("cut(2)");
        x.tells("worker(2, 4)", 1, 4);
        x.call("give(0, 2)");
        x.tells("worker(2, 4)", 1, 4);
        x.call("give(1, 2)");
        x.tells("worker(2, 4)", 1, 0);
        x.call("back(0, 2)");
        x.tells("worker(2, 4)", 1, 4);
    }

    static void promise12_paidWhoLacksNothing(Run x) {
        x.table("30w34w11");
        x.pay(0, 2);
        x.tells("worker(0, 5)", 1, 0);
        x.pay(0, 4);
        x.tells("worker(0, 5)", 1, 1);
        x.tells("worker(0, 4)", 1, 0);
        x.tells("worker(1, 5)", 1, 0);
        x.call("back(0, 2)");
        x.tells("worker(0, 5)", 1, 0);
    }

    static void promise12_badWorker(Run x) {
        x.badWorker("worker(#, 0)", 0);
        x.table("30w34w11");
        x.tells("worker(1, 1)", 1, 1);
        x.badWorker("worker(#, 0)", 2);
        x.table("30w11w11w11w11w11w11w79");
        x.tells("worker(6, 1)", 1, 7);
        x.badWorker("worker(#, 0)", 7);
    }

    static void promise12_badWhat(Run x) {
        x.table("30w34w11");
        x.due("worker(0, 0)", 1);
        x.due("worker(0, 5)", 1);
        x.badAt("worker(0, #)", -1, 6, MIN, MAX);
    }

    // ---- 13 mark

    static void promise13_anEyeTellsHowManyItTakes(Run x) {
        x.table(ALL_KINDS);
        x.due("mark(1, 1)", 4);
        x.due("mark(4, 1)", 7);
        x.call("cut(2)");
        x.due("mark(1, 1)", 4);
    }

    static void promise13_anOddOneTellsOfWhatLiesThere(Run x) {
        x.table(ALL_KINDS);
        x.due("mark(2, 2)", 0);
        x.call("cut(2)");
        x.due("mark(2, 2)", 0);
        x.call("cut(3)");
        x.due("mark(2, 2)", 1);
        x.call("cut(3)");
        x.due("mark(2, 2)", 1);
        x.call("cut(15)");
        x.call("cut(16)");
        x.due("mark(2, 2)", 2);
    }

    static void promise13_aShyOneTellsOfWhatItDoesNotTake(Run x) {
        x.table(ALL_KINDS);
        x.due("mark(3, 3)", 0);
        x.due("mark(5, 3)", 0);
        x.call("cut(4)");
        x.due("mark(3, 3)", 0);
        x.due("mark(5, 3)", 0);
        x.call("cut(5)");
        x.due("mark(3, 3)", 0);
        x.due("mark(5, 3)", 1);
        x.call("cut(2)");
        x.call("cut(3)");
        x.due("mark(3, 3)", 2);
        x.due("mark(5, 3)", 3);
    }

    static void promise13_aScribeTellsHowManyMoreThanAnEye(Run x) {
        x.table(ALL_KINDS);
        x.due("mark(4, 4)", 3);
    }

    static void promise13_aMasterTellsHowManyFewerThanAShyOne(Run x) {
        x.table(ALL_KINDS);
        x.due("mark(5, 5)", 6);
    }

    static void promise13_nowMayBeLess(Run x) {
        x.table("30o13s12w12");
        x.call("cut(3)");
        x.call("cut(2)");
        x.due("mark(0, 2)", 1);
        x.due("mark(1, 3)", 2);
        x.call("undo(1)");
        x.due("mark(1, 3)", 1);
        x.call("undo(0)");
        x.due("mark(0, 2)", 0);
    }

    static void promise13_unlike(Run x) {
        x.table(ALL_KINDS);
        String[] is = {"", "1", "2", "3", "1 4", "3 5"};
        for (int i = 0; i < 6; i++) {
            for (int kind = 1; kind <= 5; kind++) {
                if (!is[i].contains(Integer.toString(kind))) {
                    x.finds("mark(" + i + ", " + kind + ")", UNLIKE);
                }
            }
        }
    }

    static void promise13_badKind(Run x) {
        x.table(ALL_KINDS);
        for (int i = 0; i < 6; i++) {
            x.badAt("mark(" + i + ", #)", 0, 6, -1, MIN, MAX);
        }
    }

    static void promise13_badWorker(Run x) {
        x.badWorker("mark(#, 1)", 0);
        x.table(ALL_KINDS);
        x.badWorker("mark(#, 1)", 6);
        x.badWorker("mark(#, 0)", 6);
    }

    // ---- 14 takes

    static void promise14_eachKindEachPart(Run x) {
        x.table(ALL_KINDS);
        for (int i = 0; i < 6; i++) {
            for (int d = 2; d <= 16; d++) {
                boolean does = (" " + TAKEN[i] + " ").contains(" " + d + " ");
                x.due("takes(" + i + ", " + d + ")", does ? 1 : 0);
            }
        }
    }

    static void promise14_evenIfItHasItOrLacksLess(Run x) {
        x.table("30w13w91");
        x.pay(0, 3);
        x.due("takes(0, 3)", 1);
        x.due("takes(0, 2)", 1);
    }

    static void promise14_badPart(Run x) {
        x.table(ALL_KINDS);
        x.due("takes(0, 2)", 1);
        x.due("takes(0, 16)", 1);
        x.badPart("takes(0, #)");
    }

    static void promise14_badWorker(Run x) {
        x.badWorker("takes(#, 2)", 0);
        x.table(ALL_KINDS);
        x.badWorker("takes(#, 2)", 6);
    }
}
