/** Promises 34 to 37: duel, odds, mid, lots. */
public final class ChancesTest {
    private static final Bench B = new Bench();
    private static final int BAD = LoafParts.BAD, STATE = LoafParts.STATE, FULL = LoafParts.FULL;

    public static void main(String[] args) {
        duel();
        odds();
        mid();
        lots();
        lotsByHand();
        B.finish("ChancesTest");
    }

    private static void duel() {
        LoafParts x = Bench.tableOf("09w11e11o12");
        B.is("34: nothing there", x.duel(0, 1, 4), 5000);
        x.cut(2);
        B.is("34: no turns", x.duel(0, 1, 0), 5000);
        B.is("34: a half", x.duel(0, 1, 1), 5360);
        B.is("34: a half each", x.duel(0, 1, 2), 5000);
        B.is("34: an ODD one TAKES none", x.duel(2, 0, 2), 4639);
        B.is("34: then the first again", x.duel(0, 2, 3), 5360);
        x.give(0, 2);
        B.is("34: what one has counts", x.duel(0, 1, 0), 5360);
        B.is("34: cut to below", x.duel(1, 0, 0), 4639);
        // One half is left: the second is the only one that may pick it.
        B.is("34: the first has one such", x.duel(0, 1, 2), 5000);
        x.cut(3);
        x.give(0, 3);
        x.give(2, 3);
        // 1 third is left, nobody TAKES it or LACKS as much: 5 by 6 to 1 by 3, by a half.
        B.is("34: 5 by 6 to 1 by 3", x.duel(0, 2, 4), 5360);
        denial();
        B.refuses(x, "34: duel(0, 0, 1)", () -> x.duel(0, 0, 1), BAD);
        B.refuses(x, "34: duel(0, 3, 1)", () -> x.duel(0, 3, 1), BAD);
        B.refuses(x, "34: duel(-1, 0, 1)", () -> x.duel(-1, 0, 1), BAD);
        B.refuses(x, "34: duel(0, 1, -1)", () -> x.duel(0, 1, -1), BAD);
        B.refuses(x, "34: duel(0, 1, 5)", () -> x.duel(0, 1, 5), BAD);
    }

    /** Not always the greatest that is FIT. */
    private static void denial() {
        LoafParts x = Bench.tableOf("09w34e12w11w12");
        x.cut(2);
        x.cut(4);
        x.give(2, 2);
        // A half and four fourths lie there.
        B.is("34: the half, then a fourth", x.duel(0, 1, 2), 5000 + 180);
        B.is("34: the half, a fourth, a fourth", x.duel(0, 1, 3), 5000 + 360);
        B.is("34: 1 by 2 alone, then a fourth", x.duel(3, 1, 3), 5000 + 180);
        LoafParts y = Bench.tableOf("09w67o21w91w91");
        y.cut(2);
        y.cut(3);
        y.give(2, 2);
        y.give(2, 3);
        y.give(3, 3);
        // A half and a third are left; the second, an ODD one, TAKES the third alone.
        B.is("34: the half", y.duel(0, 1, 1), 5000 + 360);
        B.is("34: the third, so that the other one gets nothing", y.duel(0, 1, 2), 5000 + 240);
        B.is("34: the third, nothing, the half", y.duel(0, 1, 3), 5000 + 600);
        B.is("34: the second begins", y.duel(1, 0, 2), 5000 - 121);
    }

    private static void odds() {
        LoafParts x = Bench.tableOf("20w34e91s12w11");
        B.tellsFraction(x, "35: who has nothing", x.odds(0, 0), 1, 0, 1);
        Bench.pay(x, 0, 2, 4);
        // The half must be left.
        B.tellsFraction(x, "35: p 3", x.odds(0, 3), 1, 3, 4);
        B.tellsFraction(x, "35: p 0", x.odds(0, 0), 1, 1, 1);
        B.tellsFraction(x, "35: p 12", x.odds(0, 12), 1, 0, 1);
        B.tellsFraction(x, "35: p 1", x.odds(0, 1), 1, 11, 12);
        Bench.pay(x, 1, 2, 4);
        B.tellsFraction(x, "35: too little", x.odds(1, 1), 1, 0, 1);
        Bench.pay(x, 2, 4, 6, 12);
        // Half of a half is a fourth: 4 alone, or 6 with 12: 1 - (1/3)(1 - 4/9).
        B.tellsFraction(x, "35: a fourth, just as much", x.odds(2, 4), 1, 22, 27);
        Bench.pay(x, 3, 2, 3, 6);
        B.tellsFraction(x, "35: 2, or 3 with 6", x.odds(3, 6), 1, 5, 8);
        B.is("35: asked() is left", x.asked(), 0);
        allParts();
        B.refuses(x, "35: odds(4, 0)", () -> x.odds(4, 0), BAD);
        B.refuses(x, "35: odds(-1, 0)", () -> x.odds(-1, 0), BAD);
        B.refuses(x, "35: odds(0, -1)", () -> x.odds(0, -1), BAD);
        B.refuses(x, "35: odds(0, 13)", () -> x.odds(0, 13), BAD);
    }

    /** One who has all fifteen PARTS: the chances need numbers up to 12 to the 15th. */
    private static void allParts() {
        LoafParts x = Bench.tableOf("20w52w11");
        Bench.pay(x, 0, 2, 3, 4, 5, 6, 7, 8, 9, 10, 11, 12, 13, 14, 15, 16);
        for (int p = 0; p <= 12; p++) {
            long enough = 0;
            for (int set = 0; set < 1 << 15; set++) {
                long left = 0;
                long chance = 1;
                for (int k = 0; k < 15; k++) {
                    boolean stays = (set >> k & 1) != 0;
                    left += stays ? 720720 / (k + 2) : 0;
                    chance *= stays ? 12 - p : p;
                }
                enough += left * 4 >= 5 * 720720 ? chance : 0;
            }
            B.is("35: all PARTS, p " + p, x.odds(0, p), 1);
            long whole = 1;
            for (int k = 0; k < 15; k++) {
                whole *= 12;
            }
            B.is("35: the fraction", whole % x.lower() == 0 ? whole / x.lower() * x.upper() : -1, enough);
        }
    }

    private static void mid() {
        LoafParts x = Bench.tableOf("20w34e91");
        B.tellsFraction(x, "36: nothing", x.mid(0, 5), 1, 0, 1);
        Bench.pay(x, 0, 2, 4);
        B.tellsFraction(x, "36: p 3", x.mid(0, 3), 1, 9, 16);
        B.tellsFraction(x, "36: p 0", x.mid(0, 0), 1, 3, 4);
        B.tellsFraction(x, "36: p 12", x.mid(0, 12), 1, 0, 1);
        B.tellsFraction(x, "36: p 5", x.mid(0, 5), 1, 7, 16);
        B.refuses(x, "36: mid(2, 0)", () -> x.mid(2, 0), BAD);
        B.refuses(x, "36: mid(-1, 0)", () -> x.mid(-1, 0), BAD);
        B.refuses(x, "36: mid(0, -1)", () -> x.mid(0, -1), BAD);
        B.refuses(x, "36: mid(0, 13)", () -> x.mid(0, 13), BAD);
    }

    private static void lots() {
        LoafParts x = Bench.tableOf("20w11w11");
        B.refuses(x, "37: lots(0, 1)", () -> x.lots(0, 1), BAD);
        B.refuses(x, "37: lots(21, 1)", () -> x.lots(21, 1), BAD);
        B.refuses(x, "37: lots(1, 0)", () -> x.lots(1, 0), BAD);
        B.refuses(x, "37: lots(1, -5)", () -> x.lots(1, -5), BAD);
        B.refuses(x, "37: lots(1, 2147483647)", () -> x.lots(1, 2147483647), BAD);
        B.is("37: the greatest seed", x.lots(1, 2147483646) >= 0 ? 1 : 0, 1);
        x.undo(0);
        x.lots(20, 7);
        B.is("37: DEEDS", x.count(2), 20);
        x.cut(2);
        B.refuses(x, "37: FULL", () -> x.lots(20, 7), FULL);
        B.is("37: just as many", x.lots(19, 7), x.count(3));
        B.is("37: DEEDS", x.count(2), 40);
        B.refuses(x, "37: FULL by one", () -> x.lots(1, 7), FULL);
        LoafParts y = new LoafParts();
        B.refuses(y, "37: no WORKERS", () -> y.lots(1, 1), STATE);
        B.refuses(y, "37: BAD first", () -> y.lots(0, 1), BAD);
    }

    /** The same DEEDS by hand, one who can't be done being one of nothing. */
    private static void lotsByHand() {
        for (int seed = 1; seed < 300; seed += 7) {
            LoafParts x = Bench.tableOf("08w11e34o99s52c11w91m73");
            LoafParts y = Bench.tableOf("08w11e34o99s52c11w91m73");
            x.lots(20, seed);
            int parts = x.lots(20, seed + 1);
            byHand(y, seed);
            byHand(y, seed + 1);
            B.is("37: PARTS, seed " + seed, parts, y.count(3));
            for (int what = 3; what <= 6; what++) {
                B.is("37: count(" + what + "), seed " + seed, x.count(what), y.count(what));
            }
            for (int i = 0; i < 7; i++) {
                x.worker(i, 3);
                y.worker(i, 3);
                B.is("37: has, seed " + seed, x.asked(), y.asked());
            }
            B.is("37: DEEDS of nothing are DEEDS", x.count(2), 40);
            B.is("37: undone", x.undo(0), 40);
            y.undo(0);
            B.is("37: as at first", x.digest(), y.digest());
        }
    }

    private static void byHand(LoafParts y, int seed) {
        long lot = seed;
        for (int k = 0; k < 20; k++) {
            lot = lot * 48271L % 2147483647L;
            int d = (int) (lot / 8 % 15) + 2;
            int i = (int) (lot / 128 % 7);
            if (lot % 4 == 0) {
                y.cut(d);
            } else if (lot % 4 == 3) {
                y.back(i, d);
            } else {
                y.give(i, d);
            }
        }
    }
}
