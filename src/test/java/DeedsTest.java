/** Promises 15 to 21: cut, give, back, bake, undo, keep, on. */
public final class DeedsTest {
    private static final Bench B = new Bench();
    private static final int BAD = LoafParts.BAD, STATE = LoafParts.STATE, FULL = LoafParts.FULL;

    public static void main(String[] args) {
        cut();
        give();
        back();
        bake();
        undo();
        keepAndOn();
        full();
        withoutWorkers();
        B.finish("DeedsTest");
    }

    private static void cut() {
        LoafParts x = Bench.tableOf("03w11w11");
        B.is("15: cut(2)", x.cut(2), 2);
        B.is("15: cut(16)", x.cut(16), 16);
        B.is("15: LOAVES", x.count(1), 1);
        B.is("15: cut(2) again", x.cut(2), 4);
        B.is("15: DEEDS", x.count(2), 3);
        B.is("15: PARTS", x.count(3), 20);
        B.is("15: of which d", x.count(6), 65540);
        B.refuses(x, "15: cut(2), no LOAF", () -> x.cut(2), STATE);
        B.refuses(x, "15: cut(1)", () -> x.cut(1), BAD);
        B.refuses(x, "15: cut(17)", () -> x.cut(17), BAD);
    }

    private static void give() {
        LoafParts x = Bench.tableOf("09w34e12o99");
        B.refuses(x, "16: give(0, 2), none there", () -> x.give(0, 2), STATE);
        x.cut(2);
        x.cut(3);
        x.cut(4);
        B.is("16: give(0, 2)", x.give(0, 2), 1);
        B.is("16: PARTS left", x.count(3), 8);
        B.is("16: PARTS had", x.count(4), 1);
        B.refuses(x, "16: give(0, 2), has one such", () -> x.give(0, 2), STATE);
        B.refuses(x, "16: give(0, 3), LACKS less", () -> x.give(0, 3), STATE);
        B.is("16: give(0, 4), LACKS as much", x.give(0, 4), 2);
        B.refuses(x, "16: give(1, 3), does not TAKE it", () -> x.give(1, 3), STATE);
        B.refuses(x, "16: give(2, 2), does not TAKE it", () -> x.give(2, 2), STATE);
        B.is("16: give(1, 2)", x.give(1, 2), 1);
        B.is("16: DEEDS", x.count(2), 6);
        B.refuses(x, "16: give(1, 4), PAID", () -> x.give(1, 4), STATE);
        B.refuses(x, "16: give(3, 2)", () -> x.give(3, 2), BAD);
        B.refuses(x, "16: give(-1, 2)", () -> x.give(-1, 2), BAD);
        B.refuses(x, "16: give(0, 1)", () -> x.give(0, 1), BAD);
        B.refuses(x, "16: give(0, 17)", () -> x.give(0, 17), BAD);
    }

    private static void back() {
        LoafParts x = Bench.tableOf("09w34e12");
        Bench.pay(x, 0, 2, 4);
        B.is("17: back(0, 2)", x.back(0, 2), 1);
        B.is("17: PARTS", x.count(3), 5);
        B.is("17: DEEDS", x.count(2), 5);
        B.tells(x, "17: has", x.worker(0, 3), 1, 16);
        B.tellsFraction(x, "17: LACKS", x.lacks(0), 1, 1, 2);
        B.is("17: give(1, 2), the one that came BACK", x.give(1, 2), 1);
        B.refuses(x, "17: back(0, 2), has none", () -> x.back(0, 2), STATE);
        B.refuses(x, "17: back(2, 2)", () -> x.back(2, 2), BAD);
        B.refuses(x, "17: back(-1, 2)", () -> x.back(-1, 2), BAD);
        B.refuses(x, "17: back(0, 1)", () -> x.back(0, 1), BAD);
        B.refuses(x, "17: back(0, 17)", () -> x.back(0, 17), BAD);
    }

    private static void bake() {
        LoafParts x = Bench.tableOf("89w11w11");
        B.is("18: bake(1)", x.bake(1), 90);
        B.is("18: bake(8)", x.bake(8), 98);
        B.is("18: bake(9), what is more is lost", x.bake(9), 99);
        B.is("18: DEEDS", x.count(2), 3);
        B.refuses(x, "18: bake(1), there are 99", () -> x.bake(1), STATE);
        B.refuses(x, "18: bake(0)", () -> x.bake(0), BAD);
        B.refuses(x, "18: bake(10)", () -> x.bake(10), BAD);
        B.refuses(x, "18: bake(-1)", () -> x.bake(-1), BAD);
        B.is("19: undo(2), what was lost is not taken", x.undo(2), 1);
        B.is("19: LOAVES", x.count(1), 98);
    }

    private static void undo() {
        LoafParts x = Bench.tableOf("05w34e12w11");
        long[] digests = new long[8];
        digests[0] = x.digest();
        x.cut(2);
        digests[1] = x.digest();
        x.give(0, 2);
        digests[2] = x.digest();
        x.bake(9);
        digests[3] = x.digest();
        x.back(0, 2);
        digests[4] = x.digest();
        x.lots(2, 5);
        x.undo(5);
        x.give(2, 2);
        x.undo(5);
        x.undo(4);
        B.is("19: undone", x.digest(), digests[4]);
        x.cut(16);
        B.refuses(x, "19: undo(6)", () -> x.undo(6), BAD);
        B.refuses(x, "19: undo(-1)", () -> x.undo(-1), BAD);
        B.is("19: undo(5), none", x.undo(5), 0);
        for (int n = 4; n >= 0; n--) {
            B.is("19: undo(" + n + ")", x.undo(n), 1);
            B.is("19: the digest at " + n, x.digest(), digests[n]);
        }
        B.is("19: undo(0), none", x.undo(0), 0);
        Bench.pay(x, 0, 2, 4);
        B.is("19: undo(0), all at once", x.undo(0), 4);
        B.is("19: as at first", x.digest(), digests[0]);
    }

    private static void keepAndOn() {
        LoafParts x = Bench.tableOf("05w34e12w11");
        Bench.pay(x, 0, 2);
        B.is("20: keep(0)", x.keep(0), 2);
        B.is("20: kept TABLES", x.count(9), 1);
        Bench.pay(x, 2, 3, 4);
        B.is("20: keep(2)", x.keep(2), 6);
        x.undo(0);
        B.is("20: keep(1)", x.keep(1), 0);
        B.is("20: kept TABLES", x.count(9), 3);
        long first = x.digest();
        B.is("21: on(2)", x.on(2), 6);
        B.tells(x, "21: has", x.worker(2, 3), 1, 24);
        B.is("21: LOAVES", x.count(1), 2);
        B.is("21: of which d", x.count(6), 28);
        B.is("21: DEEDS are kept, too", x.undo(1), 5);
        B.is("21: on(0)", x.on(0), 2);
        B.tells(x, "21: has", x.worker(2, 3), 1, 0);
        B.tells(x, "21: has", x.worker(0, 3), 1, 4);
        B.is("21: on(2) again, still kept", x.on(2), 6);
        B.is("21: on(1)", x.on(1), 0);
        B.is("21: as it was", x.digest(), first);
        x.cut(2);
        B.is("20: keep(1) anew", x.keep(1), 1);
        B.refuses(x, "20: keep(3)", () -> x.keep(3), BAD);
        B.refuses(x, "20: keep(-1)", () -> x.keep(-1), BAD);
        B.refuses(x, "21: on(3)", () -> x.on(3), BAD);
        B.refuses(x, "21: on(-1)", () -> x.on(-1), BAD);
        LoafParts y = Bench.tableOf("05w34e12w11");
        B.finds(y, "21: on(0), missing", () -> y.on(0), Bench.NOTHING);
        otherDeedsMeanwhile();
    }

    /** What is kept is not the same that goes on: neither what one LACKS nor the DEEDS. */
    private static void otherDeedsMeanwhile() {
        LoafParts x = Bench.tableOf("05w34e12w11");
        long first = x.digest();
        Bench.pay(x, 0, 2);
        x.bake(3);
        x.keep(1);
        x.undo(0);
        Bench.pay(x, 2, 16);
        x.cut(3);
        x.give(2, 3);
        x.lots(9, 3);
        x.on(1);
        B.tellsFraction(x, "21: what one LACKS", x.lacks(0), 1, 1, 4);
        B.tellsFraction(x, "21: what another one LACKS", x.lacks(2), 1, 1, 1);
        x.cut(7);
        x.back(0, 2);
        x.on(1);
        B.is("21: DEEDS", x.count(2), 3);
        B.is("21: LOAVES", x.count(1), 7);
        B.is("19: DEEDS as they were kept are undone", x.undo(0), 3);
        B.is("21: LOAVES at first", x.count(1), 5);
        B.is("21: PARTS at first", x.count(3) + x.count(4) + x.count(6), 0);
        LoafParts y = Bench.tableOf("05w34e12w11");
        B.is("21: the TABLE at first", y.digest(), first);
        y.keep(1);
        x.keep(1);
        B.is("21: all as at first", x.digest(), y.digest());
    }

    private static void full() {
        LoafParts x = Bench.tableOf("90w34e12");
        Bench.pay(x, 0, 2);
        for (int k = 2; k < 39; k++) {
            x.cut(4);
        }
        B.is("16: give(0, 4), the 40th", x.give(0, 4), 2);
        x.undo(39);
        B.is("17: back(0, 2), the 40th", x.back(0, 2), 0);
        x.undo(39);
        B.is("18: bake(1), the 40th", x.bake(1), 90 - 38 + 1);
        x.undo(39);
        B.is("15: cut(4), the 40th", x.cut(4), 38 * 4);
        B.is("40 DEEDS", x.count(2), 40);
        B.refuses(x, "15: cut(2), FULL", () -> x.cut(2), FULL);
        B.refuses(x, "16: give(0, 4), FULL", () -> x.give(0, 4), FULL);
        B.refuses(x, "17: back(0, 2), FULL", () -> x.back(0, 2), FULL);
        B.refuses(x, "18: bake(1), FULL", () -> x.bake(1), FULL);
        B.refuses(x, "16: give(0, 2), STATE ahead of FULL", () -> x.give(0, 2), STATE);
        B.refuses(x, "17: back(0, 4), STATE ahead of FULL", () -> x.back(0, 4), STATE);
        LoafParts y = Bench.tableOf("00w34e12");
        for (int k = 0; k < 40; k++) {
            y.lots(1, 1);
        }
        B.is("40 DEEDS of nothing", y.count(2), 40);
        B.refuses(y, "15: cut(2), STATE ahead of FULL", () -> y.cut(2), STATE);
        LoafParts z = Bench.tableOf("99w34e12");
        for (int k = 0; k < 20; k++) {
            z.cut(2);
            z.bake(1);
        }
        B.refuses(z, "18: bake(1), STATE ahead of FULL", () -> z.bake(1), STATE);
    }

    private static void withoutWorkers() {
        LoafParts x = new LoafParts();
        B.refuses(x, "15: cut(2)", () -> x.cut(2), STATE);
        B.refuses(x, "15: cut(1)", () -> x.cut(1), BAD);
        B.refuses(x, "16: give(0, 2)", () -> x.give(0, 2), BAD);
        B.refuses(x, "17: back(0, 2)", () -> x.back(0, 2), BAD);
        B.refuses(x, "18: bake(1)", () -> x.bake(1), STATE);
        B.refuses(x, "18: bake(0)", () -> x.bake(0), BAD);
        B.refuses(x, "19: undo(1)", () -> x.undo(1), BAD);
        B.is("19: undo(0)", x.undo(0), 0);
        B.refuses(x, "20: keep(0)", () -> x.keep(0), STATE);
        B.refuses(x, "20: keep(3)", () -> x.keep(3), BAD);
        B.finds(x, "21: on(0)", () -> x.on(0), Bench.NOTHING);
    }
}
