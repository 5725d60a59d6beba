/** Promises 1 to 9: a new object, row, lay, at, tear, copy, mean, text, put. */
public final class RowsTextsTest {
    private static final Bench B = new Bench();
    private static final int MIN = Integer.MIN_VALUE, MAX = Integer.MAX_VALUE, BAD = LoafParts.BAD;

    public static void main(String[] args) {
        newObject();
        row();
        layAndAt();
        tear();
        copy();
        mean();
        text();
        put();
        B.finish("RowsTextsTest");
    }

    private static void newObject() {
        LoafParts x = new LoafParts();
        for (int what = 0; what < 12; what++) {
            B.is("1: count(" + what + ")", x.count(what), 0);
        }
        for (int r = 0; r < 6; r++) {
            int number = r;
            B.finds(x, "1: at(" + r + ", 0)", () -> x.at(number, 0), Bench.NOTHING);
        }
        for (int t = 0; t < 4; t++) {
            int number = t;
            B.finds(x, "1: fault(" + t + ")", () -> x.fault(number), Bench.NOTHING);
        }
        B.is("1: worker(0, 0)", x.worker(0, 0), BAD);
    }

    private static void row() {
        LoafParts x = new LoafParts();
        B.is("2: row(0, 40)", x.row(0, 40), 40);
        x.lay(0, 39, 5);
        B.is("2: row(0, 40)", x.row(0, 40), 40);
        B.tells(x, "2: a ROW anew has 0", x.at(0, 39), 1, 0);
        B.is("2: row(5, 0)", x.row(5, 0), 0);
        B.is("2: ROWS", x.count(7), 2);
        B.is("2: row(0, 2), smaller", x.row(0, 2), 2);
        B.finds(x, "2: at(0, 2)", () -> x.at(0, 2), Bench.BEYOND);
        B.refuses(x, "2: row(6, 1)", () -> x.row(6, 1), BAD);
        B.refuses(x, "2: row(-1, 1)", () -> x.row(-1, 1), BAD);
        B.refuses(x, "2: row(0, 41)", () -> x.row(0, 41), BAD);
        B.refuses(x, "2: row(0, MAX)", () -> x.row(0, MAX), BAD);
        B.refuses(x, "2: row(6, -1) is BAD first", () -> x.row(6, -1), BAD);
        B.finds(x, "2: row(0, -1)", () -> x.row(0, -1), Bench.SIZE);
        B.finds(x, "2: row(1, MIN)", () -> x.row(1, MIN), Bench.SIZE);
    }

    private static void layAndAt() {
        LoafParts x = new LoafParts();
        B.finds(x, "3: lay(0, 0, 1), missing", () -> x.lay(0, 0, 1), Bench.NOTHING);
        B.finds(x, "4: at(0, 0), missing", () -> x.at(0, 0), Bench.NOTHING);
        B.finds(x, "3: lay(0, -1, 1), missing first", () -> x.lay(0, -1, 1), Bench.NOTHING);
        x.row(0, 3);
        B.tells(x, "3: lay(0, 0, MIN)", x.lay(0, 0, MIN), 1, 0);
        B.tells(x, "3: lay(0, 0, MAX)", x.lay(0, 0, MAX), 1, MIN);
        B.tells(x, "3: lay(0, 2, 7)", x.lay(0, 2, 7), 1, 0);
        B.tells(x, "4: at(0, 0)", x.at(0, 0), 1, MAX);
        B.tells(x, "4: at(0, 1)", x.at(0, 1), 1, 0);
        B.tells(x, "4: at(0, 2)", x.at(0, 2), 1, 7);
        for (int i : new int[] {3, -1, 40, MIN, MAX}) {
            B.finds(x, "3: lay(0, " + i + ", 1)", () -> x.lay(0, i, 1), Bench.BEYOND);
            B.finds(x, "4: at(0, " + i + ")", () -> x.at(0, i), Bench.BEYOND);
        }
        for (int r : new int[] {6, -1, MIN, MAX}) {
            B.refuses(x, "3: lay(" + r + ", 0, 1)", () -> x.lay(r, 0, 1), BAD);
            B.refuses(x, "4: at(" + r + ", 0)", () -> x.at(r, 0), BAD);
        }
    }

    private static void tear() {
        LoafParts x = new LoafParts();
        x.row(2, 4);
        B.is("5: tear(2)", x.tear(2), 1);
        B.is("5: ROWS", x.count(7), 0);
        B.finds(x, "5: tear(2) again", () -> x.tear(2), Bench.NOTHING);
        B.finds(x, "5: at(2, 0)", () -> x.at(2, 0), Bench.NOTHING);
        B.refuses(x, "5: tear(6)", () -> x.tear(6), BAD);
        B.refuses(x, "5: tear(-1)", () -> x.tear(-1), BAD);
    }

    private static void copy() {
        LoafParts x = new LoafParts();
        Bench.putRow(x, 0, 1, 2, 3, 4, 5);
        Bench.putRow(x, 1, 9, 9, 9);
        B.is("6: copy(0, 1, 1, 0, 2)", x.copy(0, 1, 1, 0, 2), 1);
        rowIs(x, 1, 2, 3, 9);
        B.is("6: copy(0, 0, 0, 1, 4), upon itself", x.copy(0, 0, 0, 1, 4), 1);
        rowIs(x, 0, 1, 1, 2, 3, 4);
        B.is("6: copy(0, 2, 0, 0, 3), upon itself", x.copy(0, 2, 0, 0, 3), 1);
        rowIs(x, 0, 2, 3, 4, 3, 4);
        B.is("6: copy(0, 5, 1, 3, 0)", x.copy(0, 5, 1, 3, 0), 1);
        B.finds(x, "6: copy(0, 6, 1, 0, 0)", () -> x.copy(0, 6, 1, 0, 0), Bench.BEYOND);
        B.finds(x, "6: copy(0, 0, 1, 0, 4)", () -> x.copy(0, 0, 1, 0, 4), Bench.BEYOND);
        B.finds(x, "6: copy(1, 0, 0, 0, 4)", () -> x.copy(1, 0, 0, 0, 4), Bench.BEYOND);
        B.finds(x, "6: copy(0, -1, 1, 0, 1)", () -> x.copy(0, -1, 1, 0, 1), Bench.BEYOND);
        B.finds(x, "6: copy(0, 0, 1, -1, 1)", () -> x.copy(0, 0, 1, -1, 1), Bench.BEYOND);
        B.finds(x, "6: copy(0, MAX, 1, 0, MAX)", () -> x.copy(0, MAX, 1, 0, MAX), Bench.BEYOND);
        B.finds(x, "6: copy(0, 0, 1, 1, MAX)", () -> x.copy(0, 0, 1, 1, MAX), Bench.BEYOND);
        B.finds(x, "6: copy(2, 0, 1, 9, 1), missing first", () -> x.copy(2, 0, 1, 9, 1), Bench.NOTHING);
        B.finds(x, "6: copy(0, 9, 2, 0, 1), missing first", () -> x.copy(0, 9, 2, 0, 1), Bench.NOTHING);
        B.finds(x, "6: copy(2, 0, 1, 0, -1), size first", () -> x.copy(2, 0, 1, 0, -1), Bench.SIZE);
        B.refuses(x, "6: copy(6, 0, 1, 0, -1), BAD first", () -> x.copy(6, 0, 1, 0, -1), BAD);
        B.refuses(x, "6: copy(0, 0, -1, 0, 1)", () -> x.copy(0, 0, -1, 0, 1), BAD);
    }

    private static void rowIs(LoafParts x, int r, int... values) {
        for (int i = 0; i < values.length; i++) {
            B.tells(x, "at(" + r + ", " + i + ")", x.at(r, i), 1, values[i]);
        }
    }

    private static void mean() {
        LoafParts x = new LoafParts();
        Bench.putRow(x, 0, 1, 2, 5);
        B.tells(x, "7: mean of 1 2 5", x.mean(0), 1, 2);
        Bench.putRow(x, 0, -1, -2, -5);
        B.tells(x, "7: mean of -1 -2 -5", x.mean(0), 1, -2);
        Bench.putRow(x, 0, MAX, MAX, MAX);
        B.tells(x, "7: mean of the greatest", x.mean(0), 1, MAX);
        Bench.putRow(x, 0, MIN, MIN);
        B.tells(x, "7: mean of the least", x.mean(0), 1, MIN);
        Bench.putRow(x, 0, -9);
        B.tells(x, "7: mean of -9", x.mean(0), 1, -9);
        x.row(1, 0);
        B.finds(x, "7: mean(1), among none", () -> x.mean(1), Bench.NOUGHT);
        B.finds(x, "7: mean(2)", () -> x.mean(2), Bench.NOTHING);
        B.refuses(x, "7: mean(6)", () -> x.mean(6), BAD);
        B.refuses(x, "7: mean(-1)", () -> x.mean(-1), BAD);
    }

    private static void text() {
        LoafParts x = new LoafParts();
        B.is("8: text(3, 60)", x.text(3, 60), 60);
        B.is("8: a blank", x.put(3, 59, 7), 1032);
        B.is("8: text(3, 60) again", x.text(3, 60), 60);
        B.is("8: a blank again", x.put(3, 59, 7), 1032);
        B.is("8: text(0, 0)", x.text(0, 0), 0);
        B.is("8: TEXTS", x.count(8), 2);
        B.refuses(x, "8: text(4, 1)", () -> x.text(4, 1), BAD);
        B.refuses(x, "8: text(-1, 1)", () -> x.text(-1, 1), BAD);
        B.refuses(x, "8: text(0, 61)", () -> x.text(0, 61), BAD);
        B.refuses(x, "8: text(4, -1), BAD first", () -> x.text(4, -1), BAD);
        B.finds(x, "8: text(0, -1)", () -> x.text(0, -1), Bench.SIZE);
        B.finds(x, "8: text(1, MIN)", () -> x.text(1, MIN), Bench.SIZE);
    }

    private static void put() {
        LoafParts x = new LoafParts();
        x.text(1, 2);
        B.is("9: put(1, 0, 200)", x.put(1, 0, 200), 1032);
        B.is("9: 200 cut to a byte", x.put(1, 0, -1), 1000 - 56);
        B.is("9: -1", x.put(1, 0, 256 + 65), 999);
        B.is("9: 321 cut to a byte", x.put(1, 0, 128), 1065);
        B.is("9: 128 cut to a byte", x.put(1, 0, 0), 872);
        B.is("9: asked() is left", x.asked(), 0);
        B.finds(x, "9: put(1, 2, 0)", () -> x.put(1, 2, 0), Bench.BEYOND);
        B.finds(x, "9: put(1, -1, 0)", () -> x.put(1, -1, 0), Bench.BEYOND);
        B.finds(x, "9: put(0, -1, 0), missing first", () -> x.put(0, -1, 0), Bench.NOTHING);
        B.refuses(x, "9: put(4, 0, 0)", () -> x.put(4, 0, 0), BAD);
        B.refuses(x, "9: put(-1, 0, 0)", () -> x.put(-1, 0, 0), BAD);
    }
}
