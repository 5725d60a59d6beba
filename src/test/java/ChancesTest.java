import java.math.BigInteger;

/** Promises 34 to 37: duel, odds, mid, lots. */
public final class ChancesTest {
    private static final int MIN = Run.MIN, MAX = Run.MAX;
    private static final int CUT = 0, GIVE = 1, GIVE_TOO = 2, BACK = 3;

    public static void main(String[] args) {
        Tests.runAll(ChancesTest.class);
    }

    // ---- 34 duel

    static void promise34_noTurns(Run x) {
        x.table("20w11e11o12");
        x.call("cut(2)");
        x.due("duel(0, 1, 0)", 5000);
        x.call("give(0, 2)");
        x.due("duel(0, 1, 0)", 5360);
        x.due("duel(1, 0, 0)", 4639);
    }

    static void promise34_zeroToFourTurns(Run x) {
        x.table("20w91w91");
        x.call("cut(2)");
        x.call("cut(3)");
        x.due("duel(0, 1, 0)", 5000);
        x.due("duel(0, 1, 1)", 5360);
        x.due("duel(0, 1, 2)", 5000);
        x.due("duel(0, 1, 3)", 5240);
        x.due("duel(0, 1, 4)", 5000);
        x.badAt("duel(0, 1, #)", 5, -1, 6, MIN, MAX);
    }

    static void promise34_nothingIsThereToPick(Run x) {
        x.table("20w91w91");
        for (int n = 0; n <= 4; n++) {
            x.due("duel(0, 1, " + n + ")", 5000);
        }
    }

    static void promise34_whatIsNotFitIsNotPicked(Run x) {
        x.table("20w91e91o91w14w13");
        x.call("cut(3)");
        x.due("duel(1, 0, 1)", 5000);
        x.due("duel(2, 0, 1)", 5240);
        x.due("duel(3, 0, 1)", 5000);
        x.due("duel(4, 0, 1)", 5240);
        x.call("give(0, 3)");
        x.due("duel(0, 1, 1)", 5240);
        x.due("duel(4, 1, 1)", 5240);
        x.call("give(4, 3)");
        x.due("duel(4, 1, 1)", 5240);
    }

    /** One half is left: the second is the only one that may pick it. */
    static void promise34_theLastOnePicked(Run x) {
        x.table("20w11e11w11");
        x.pay(0, 2);
        x.due("duel(0, 1, 2)", 5000);
        x.due("duel(2, 1, 2)", 5360);
        x.due("duel(1, 2, 4)", 5360);
    }

    /** A half and a third are left; the second, an ODD one, TAKES the third alone. */
    static void promise34_notAlwaysTheGreatest(Run x) {
        x.table("20w67o21w91w91");
        x.call("cut(2)");
        x.call("cut(3)");
        x.call("give(2, 2)");
        x.call("give(2, 3)");
        x.call("give(3, 3)");
        x.due("duel(0, 1, 1)", 5000 + 360);
        x.due("duel(0, 1, 2)", 5000 + 240);
        x.due("duel(0, 1, 3)", 5000 + 600);
        x.due("duel(1, 0, 2)", 5000 - 121);
    }

    /** 1 by 7 less 1 by 13 is between a sixteenth and a fifteenth. */
    static void promise34_aSixteenthAloneIsFit(Run x) {
        x.table("20w17w91");
        x.call("cut(16)");
        x.call("cut(15)");
        x.pay(0, 13);
        x.due("duel(0, 1, 2)", 5000 + 45);
    }

    /** 11 and 14 make 117000 of the 720720ths, 11 alone 65520. */
    static void promise34_cutToBelow(Run x) {
        x.table("20w91w91");
        x.pay(0, 11);
        x.due("duel(0, 1, 0)", 5000 + 65);
        x.due("duel(1, 0, 0)", 5000 - 66);
        x.pay(0, 14);
        x.due("duel(0, 1, 0)", 5000 + 117);
        x.due("duel(1, 0, 0)", 5000 - 117);
    }

    static void promise34_theMostThatOneCanHave(Run x) {
        x.table("20w91w91");
        x.pay(0, 2, 3, 4, 5, 6, 7, 8, 9, 10, 11, 12, 13, 14, 15, 16);
        x.due("duel(0, 1, 0)", 5000 + 1715);
        x.due("duel(1, 0, 0)", 5000 - 1716);
        x.due("duel(1, 0, 1)", 5000 - 1356);
    }

    static void promise34_itIsAside(Run x) {
        x.table("20w91e91");
        x.call("cut(2)");
        x.call("cut(3)");
        x.tells("worker(0, 1)", 1, 9);
        long before = x.call("digest()");
        x.due("duel(0, 1, 4)", 5240);
        x.due("digest()", before);
        x.due("asked()", 9);
    }

    static void promise34_badIfTwoAlike(Run x) {
        x.table("20w91w91");
        for (int n = 0; n <= 4; n++) {
            x.bad("duel(0, 0, " + n + ")");
            x.bad("duel(1, 1, " + n + ")");
        }
    }

    static void promise34_badWorker(Run x) {
        x.badWorker("duel(#, 1, 1)", 0);
        x.table("20w91w91");
        x.due("duel(1, 0, 0)", 5000);
        x.badWorker("duel(#, 1, 1)", 2);
        x.badWorker("duel(1, #, 1)", 2);
        x.badWorker("duel(#, #, 1)", 2);
    }

    // ---- 35 odds

    static void promise35_pOf12(Run x) {
        x.table("20w12w11");
        x.pay(0, 2);
        for (int p = 0; p <= 12; p++) {
            BigInteger whole = BigInteger.valueOf(12);
            long common = BigInteger.valueOf(12 - p).gcd(whole).longValue();
            x.fraction("odds(0, " + p + ")", 1, (12 - p) / common, 12 / common);
        }
        x.badAt("odds(0, #)", 13, -1, MIN, MAX);
    }

    /** Half of a half is a fourth: 4 alone, or 6 with 12: 1 less 1 by 3 times 5 by 9. */
    static void promise35_halfOrMore(Run x) {
        x.table("20s12w11");
        x.pay(0, 4, 6, 12);
        x.fraction("odds(0, 4)", 1, 22, 27);
    }

    /** Half of 3 by 7 is 7 and 14 together; 9 and 10 are less than half of 4 by 9, by 1 by 90. */
    static void promise35_justHalfAndJustLess(Run x) {
        x.table("20w37w49w11");
        x.pay(0, 7);
        x.fraction("odds(0, 0)", 1, 0, 1);
        x.pay(0, 14);
        x.fraction("odds(0, 0)", 1, 1, 1);
        x.fraction("odds(0, 6)", 1, 1, 4);
        x.pay(1, 9, 10);
        x.fraction("odds(1, 0)", 1, 0, 1);
        x.fraction("odds(1, 6)", 1, 0, 1);
    }

    /** Half of 1 by 3 is a sixth; half of 1 by 9 is 1 by 18, so that any PART is enough. */
    static void promise35_byEachPartItself(Run x) {
        x.table("20w13w19w34");
        x.pay(0, 4, 12);
        x.fraction("odds(0, 3)", 1, 3, 4);
        x.pay(1, 16);
        x.fraction("odds(1, 3)", 1, 3, 4);
        x.pay(2, 2, 4);
        x.fraction("odds(2, 3)", 1, 3, 4);
        x.fraction("odds(2, 1)", 1, 11, 12);
    }

    static void promise35_whoHasNothing(Run x) {
        x.table("20w13w11");
        x.fraction("lacks(0)", 1, 1, 3);
        x.fraction("odds(0, 0)", 1, 0, 1);
        x.fraction("odds(0, 12)", 1, 0, 1);
    }

    static void promise35_whoHasTooLittle(Run x) {
        x.table("20w91w11");
        x.pay(0, 2, 3);
        x.fraction("odds(0, 0)", 1, 0, 1);
        x.fraction("odds(0, 7)", 1, 0, 1);
    }

    static void promise35_allOrNothing(Run x) {
        x.table("20w11w11");
        x.pay(0, 2, 3, 6);
        x.fraction("odds(0, 0)", 1, 1, 1);
        x.fraction("odds(0, 12)", 1, 0, 1);
        x.fraction("odds(0, 6)", 1, 5, 8);
    }

    /** One who has all fifteen PARTS: the chances need numbers up to 12 to the 15th. */
    static void promise35_allParts(Run x) {
        x.table("20w52w11");
        x.pay(0, 2, 3, 4, 5, 6, 7, 8, 9, 10, 11, 12, 13, 14, 15, 16);
        BigInteger whole = BigInteger.valueOf(12).pow(15);
        for (int p = 0; p <= 12; p++) {
            BigInteger enough = BigInteger.ZERO;
            for (int set = 0; set < 1 << 15; set++) {
                long left = 0;
                for (int k = 0; k < 15; k++) {
                    left += (set >> k & 1) != 0 ? 720720 / (k + 2) : 0;
                }
                if (left * 4 >= 5 * 720720) {
                    int stay = Integer.bitCount(set);
                    enough = enough.add(BigInteger.valueOf(12 - p).pow(stay).multiply(BigInteger.valueOf(p).pow(15 - stay)));
                }
            }
            BigInteger common = enough.gcd(whole);
            x.fraction("odds(0, " + p + ")", 1, enough.divide(common).longValueExact(),
                whole.divide(common).longValueExact());
        }
    }

    static void promise35_badWorker(Run x) {
        x.badWorker("odds(#, 0)", 0);
        x.table("20w11w11");
        x.badWorker("odds(#, 0)", 2);
        x.due("odds(1, 0)", 1);
    }

    // ---- 36 mid

    static void promise36_pOf12(Run x) {
        x.table("20w34w91");
        x.pay(0, 2, 4);
        x.fraction("mid(0, 0)", 1, 3, 4);
        x.fraction("mid(0, 1)", 1, 11, 16);
        x.fraction("mid(0, 3)", 1, 9, 16);
        x.fraction("mid(0, 5)", 1, 7, 16);
        x.fraction("mid(0, 11)", 1, 1, 16);
        x.fraction("mid(0, 12)", 1, 0, 1);
        x.badAt("mid(0, #)", 13, -1, MIN, MAX);
    }

    static void promise36_whoHasNothing(Run x) {
        x.table("20w34w91");
        x.fraction("lacks(0)", 1, 3, 4);
        x.fraction("mid(0, 0)", 1, 0, 1);
        x.fraction("mid(0, 5)", 1, 0, 1);
    }

    static void promise36_allParts(Run x) {
        x.table("20w91w11");
        x.pay(0, 2, 3, 4, 5, 6, 7, 8, 9, 10, 11, 12, 13, 14, 15, 16);
        x.fraction("mid(0, 0)", 1, 1715839, 720720);
        x.fraction("mid(0, 11)", 1, 1715839, 8648640);
        x.fraction("mid(1, 0)", 1, 0, 1);
    }

    static void promise36_badWorker(Run x) {
        x.badWorker("mid(#, 0)", 0);
        x.table("20w11w11");
        x.badWorker("mid(#, 0)", 2);
        x.due("mid(1, 0)", 1);
    }

    // ---- 37 lots

    /** A seed from which a number comes that chooses so. */
    private static int seedOf(int choice, int d, int i, int workers) {
        BigInteger modulus = BigInteger.valueOf(2147483647);
        for (int lot = 1;; lot++) {
            if (lot % 4 == choice && lot / 8 % 15 + 2 == d && lot / 128 % workers == i) {
                return BigInteger.valueOf(48271).modInverse(modulus).multiply(BigInteger.valueOf(lot)).mod(modulus).intValue();
            }
        }
    }

    private static String oneLot(int choice, int d, int i, int workers) {
        return "lots(1, " + seedOf(choice, d, i, workers) + ")";
    }

    static void promise37_aLoafIsCut(Run x) {
        x.table("20w11w11");
        int parts = 0;
        for (int d = 2; d <= 16; d++) {
            parts += d;
            x.due(oneLot(CUT, d, 1, 2), parts);
            x.due("count(6)", (2 << d) - 4);
            x.due("count(1)", 20 - (d - 1));
        }
        x.due("count(2)", 15);
    }

    static void promise37_noLoafIsADeedOfNothing(Run x) {
        x.table("01w11w11");
        x.due(oneLot(CUT, 5, 1, 2), 5);
        x.due(oneLot(CUT, 5, 1, 2), 5);
        x.due("count(1)", 0);
        x.due("count(2)", 2);
        x.due("undo(1)", 1);
        x.due("count(3)", 5);
    }

    static void promise37_itIsGiven(Run x) {
        x.table("20w11w11w11w11w11w11w91");
        x.call("cut(2)");
        x.call("cut(16)");
        x.due(oneLot(GIVE, 2, 0, 7), 17);
        x.tells("worker(0, 3)", 1, 4);
        x.due(oneLot(GIVE_TOO, 16, 6, 7), 16);
        x.tells("worker(6, 3)", 1, 1 << 16);
        x.due("count(4)", 2);
    }

    static void promise37_whatIsNotFitIsADeedOfNothing(Run x) {
        x.table("20w13o12");
        x.call("cut(2)");
        x.due(oneLot(GIVE, 2, 0, 2), 2);
        x.due(oneLot(GIVE_TOO, 2, 1, 2), 2);
        x.due(oneLot(GIVE, 3, 0, 2), 2);
        x.due("count(2)", 4);
        x.due("count(4)", 0);
    }

    static void promise37_itComesBack(Run x) {
        x.table("20w91w91");
        x.pay(1, 2, 16);
        x.due(oneLot(BACK, 16, 1, 2), 17);
        x.tells("worker(1, 3)", 1, 4);
        x.due(oneLot(BACK, 2, 1, 2), 18);
        x.due("count(4)", 0);
    }

    static void promise37_whatItHasNotIsADeedOfNothing(Run x) {
        x.table("20w91w91");
        x.pay(1, 2);
        x.due(oneLot(BACK, 2, 0, 2), 1);
        x.due(oneLot(BACK, 3, 1, 2), 1);
        x.due("count(2)", 4);
        x.due("count(4)", 1);
    }

    static void promise37_oneToTwentyDeeds(Run x) {
        x.table("20w11w11");
        x.due("lots(1, 1)", 0);
        x.due("count(2)", 1);
        x.call("undo(0)");
        x.call("lots(20, 1)");
        x.due("count(2)", 20);
        x.badAt("lots(#, 1)", 0, 21, -1, MIN, MAX);
    }

    /** By 1 comes 48271, the BACK of a PART; by 2147483646 2147435376, by which a LOAF is CUT into 14. */
    static void promise37_seedsFromOneTo2147483646(Run x) {
        x.table("20w11w11");
        x.due("lots(1, 1)", 0);
        x.due("lots(1, 2147483646)", 14);
        x.badAt("lots(1, #)", 0, MAX, -1, MIN);
    }

    static void promise37_eachNumberFromTheOneAhead(Run x) {
        for (int seed : new int[] {1, 2, 7, 99, 12345, 2147483646, 2147483645, 1 << 30}) {
            x.fresh();
            x.table("08w11e34o99s52c11w91m73");
            x.call("lots(20, " + seed + ")");
            long parts = x.call("lots(20, " + seed + ")");
            LoafParts y = new LoafParts();
            String text = "08w11e34o99s52c11w91m73";
            y.text(3, text.length());
            for (int i = 0; i < text.length(); i++) {
                y.put(3, i, text.charAt(i));
            }
            y.table(3);
            byHand(y, seed);
            byHand(y, seed);
            x.is("PARTS, seed " + seed, parts, y.count(3));
            for (int what : new int[] {0, 1, 3, 4, 5, 6}) {
                x.due("count(" + what + ")", y.count(what));
            }
            for (int i = 0; i < 7; i++) {
                y.worker(i, 3);
                x.tells("worker(" + i + ", 3)", 1, y.asked());
            }
            x.due("undo(0)", 40);
            y.undo(0);
            x.due("digest()", y.digest());
        }
    }

    private static void byHand(LoafParts y, int seed) {
        long lot = seed;
        for (int k = 0; k < 20; k++) {
            lot = lot * 48271L % 2147483647L;
            int d = (int) (lot / 8 % 15) + 2;
            int i = (int) (lot / 128 % 7);
            if (lot % 4 == 0) {
                y.cut(d);
            } else if (lot % 4 == 3) {
                y.back(i, d);
            } else {
                y.give(i, d);
            }
        }
    }

    static void promise37_stateWithoutWorkers(Run x) {
        x.state("lots(1, 1)");
        x.state("lots(20, 2147483646)");
    }

    static void promise37_badAheadOfState(Run x) {
        x.bad("lots(0, 1)");
        x.bad("lots(21, 1)");
        x.bad("lots(1, 0)");
        x.bad("lots(1, MAX)");
    }

    static void promise37_full(Run x) {
        x.table("20w11w11");
        x.idle(20);
        x.call("lots(20, 7)");
        x.due("count(2)", 40);
        x.full("lots(1, 7)");
        x.full("lots(20, 7)");
        x.call("undo(21)");
        x.full("lots(20, 7)");
        x.is("lots(19, 7)", x.call("lots(19, 7)"), x.call("count(3)"));
        x.due("count(2)", 40);
        x.call("undo(39)");
        x.full("lots(2, 7)");
        x.is("lots(1, 7)", x.call("lots(1, 7)"), x.call("count(3)"));
    }

    static void promise37_fullLast(Run x) {
        x.table("20w11w11");
        x.idle(40);
        x.bad("lots(0, 7)");
        x.bad("lots(21, 7)");
        x.bad("lots(20, 0)");
    }

    static void promise37_askedStays(Run x) {
        x.table("20w34w11");
        x.tells("worker(0, 1)", 1, 3);
        x.call("lots(9, 9)");
        x.due("asked()", 3);
    }
}
