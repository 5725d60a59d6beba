/** Promises 38 to 44: asked, upper, lower, count, finding, findings, digest. */
public final class ToldTest {
    private static final Bench B = new Bench();
    private static final int BAD = LoafParts.BAD;

    public static void main(String[] args) {
        asked();
        upperAndLower();
        count();
        findings();
        digest();
        constants();
        B.finish("ToldTest");
    }

    private static void asked() {
        LoafParts x = new LoafParts();
        B.is("38: 0 before", x.asked(), 0);
        Bench.putRow(x, 0, 12, 20);
        B.tells(x, "38: at", x.at(0, 0), 1, 12);
        B.tells(x, "38: lay", x.lay(0, 1, 5), 1, 20);
        x.row(1, 3);
        x.tear(1);
        x.copy(0, 0, 0, 0, 2);
        x.text(0, 5);
        x.put(0, 0, 48);
        x.fault(0);
        x.count(7);
        x.findings(1);
        B.is("38: others tell nothing", x.asked(), 20);
        B.tells(x, "38: mean", x.mean(0), 1, 8);
        LoafParts y = Bench.tableOf("09w34w11");
        y.worker(0, 1);
        B.is("38: worker", y.asked(), 3);
        y.lacks(0);
        y.writes(1, 1);
        y.poor();
        y.takes(0, 2);
        y.cut(2);
        y.give(0, 2);
        y.back(0, 2);
        y.bake(1);
        y.undo(0);
        y.keep(0);
        y.on(0);
        y.duel(0, 1, 2);
        y.odds(0, 3);
        y.mid(0, 3);
        y.digest();
        y.row(0, 0);
        y.kinds(0);
        B.is("38: others tell nothing", y.asked(), 3);
    }

    private static void upperAndLower() {
        LoafParts x = Bench.tableOf("09w34w78");
        B.is("39: 0 before", x.upper(), 0);
        B.is("40: 1 before", x.lower(), 1);
        B.tellsFraction(x, "39: lacks", x.lacks(0), 1, 3, 4);
        B.tellsFraction(x, "39: poor", x.poor(), 1, 7, 8);
        x.ways(0);
        x.lacks(9);
        x.odds(0, 13);
        x.mid(9, 0);
        B.is("39: others leave it", x.upper(), 7);
        B.is("40: others leave it", x.lower(), 8);
        x.table(3);
        B.is("39: a TABLE anew leaves it", x.upper(), 7);
        B.tellsFraction(x, "39: odds", x.odds(0, 5), 1, 0, 1);
        x.lacks(0);
        B.tellsFraction(x, "39: mid", x.mid(0, 5), 1, 0, 1);
    }

    private static void count() {
        LoafParts x = Bench.tableOf("30w12e34o11s23c12m58e11");
        Bench.pay(x, 0, 2);
        Bench.pay(x, 4, 2);
        Bench.pay(x, 2, 3);
        x.keep(1);
        x.row(0, 0);
        x.row(4, 40);
        x.text(0, 0);
        int[] counts = {7, 27, 6, 4, 3, 17, 12, 2, 2, 1, 3, 2};
        for (int what = 0; what < 12; what++) {
            B.is("41: count(" + what + ")", x.count(what), counts[what]);
        }
        LoafParts y = Bench.tableOf("30s23e12m12");
        B.is("41: nobody is PAID", y.count(5), 0);
        Bench.pay(y, 1, 2);
        B.is("41: one is PAID", y.count(5), 2);
        B.is("41: EYES", y.count(10), 1);
        B.is("41: SHY ones", y.count(11), 2);
        Bench.putText(y, 0, "30e12w12");
        y.table(0);
        B.is("41: EYES, the first", y.count(10), 1);
        B.is("41: SHY ones, none", y.count(11), 0);
        for (int what : new int[] {12, -1, Integer.MIN_VALUE, Integer.MAX_VALUE}) {
            B.refuses(x, "41: count(" + what + ")", () -> x.count(what), BAD);
        }
    }

    private static void findings() {
        LoafParts x = new LoafParts();
        B.is("42: 0 before any", x.finding(), 0);
        for (int f = 1; f <= 5; f++) {
            B.is("43: none before", x.findings(f), 0);
        }
        x.at(0, 0);
        x.at(0, 0);
        x.row(0, 0);
        x.at(0, 0);
        Bench.putRow(x, 1, 1);
        x.dues(1);
        x.mean(0);
        x.row(0, -1);
        x.row(0, -1);
        x.row(0, -1);
        B.is("42: the latest", x.finding(), 5);
        int[] often = {2, 1, 1, 1, 3};
        for (int f = 1; f <= 5; f++) {
            B.is("43: findings(" + f + ")", x.findings(f), often[f - 1]);
        }
        x.at(0, 0);
        B.is("42: the latest", x.finding(), 2);
        x.row(9, 9);
        B.is("42: BAD is none", x.finding(), 2);
        for (int f : new int[] {0, 6, -1, Integer.MIN_VALUE, Integer.MAX_VALUE}) {
            B.refuses(x, "43: findings(" + f + ")", () -> x.findings(f), BAD);
        }
    }

    private static void digest() {
        long h = 17;
        for (int k = 0; k < 12 + 15; k++) {
            h = 31 * h;
        }
        for (int k = 0; k < 3 + 6 + 4; k++) {
            h = 31 * h - 1;
        }
        B.is("44: of a new object", new LoafParts().digest(), h);
        LoafParts x = Bench.tableOf("30w12e34");
        Bench.pay(x, 0, 2);
        x.keep(1);
        Bench.putRow(x, 2, -7, 8);
        x.text(0, 1);
        x.put(0, 0, 200);
        x.at(2, 1);
        int[] values = {2, 29, 2, 1, 1, 1, 4, 1, 2, 1, 1, 0,
            0, 1, 2, 4, 0, 1, 1, 3, 4, 0, 4, 0,
            1, 0, 0, 0, 0, 0, 0, 0, 0, 0, 0, 0, 0, 0, 0,
            -1, 2, -1,
            -1, -1, 2, -7, 8, -1, -1, -1,
            1, -56, -1, -1, 8, '3', '0', 'w', '1', '2', 'e', '3', '4'};
        h = 17;
        for (int v : values) {
            h = 31 * h + v;
        }
        B.is("44: digest()", x.digest(), h);
        B.is("44: digest() again", x.digest(), h);
        B.is("44: asked() is left", x.asked(), 8);
    }

    private static void constants() {
        B.is("BAD", LoafParts.BAD, -1);
        B.is("FULL", LoafParts.FULL, -2);
        B.is("FINDING", LoafParts.FINDING, -3);
        B.is("STATE", LoafParts.STATE, -4);
        B.is("SPENT", LoafParts.SPENT, -6);
        B.is("NONE", LoafParts.NONE, -9);
    }
}
