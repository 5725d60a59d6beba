/** Promises 1 to 9: a new object, row, lay, at, tear, copy, mean, text, put. */
public final class RowsTextsTest {
    private static final int NOTHING = Run.NOTHING, BEYOND = Run.BEYOND, NOUGHT = Run.NOUGHT, SIZE = Run.SIZE;
    private static final int MIN = Run.MIN, MAX = Run.MAX;

    public static void main(String[] args) {
        Tests.runAll(RowsTextsTest.class);
    }

    // ---- 1 a new object

    static void promise01_noRows(Run x) {
        x.due("count(7)", 0);
        for (int r = 0; r < 6; r++) {
            x.finds("at(" + r + ", 0)", NOTHING);
            x.finds("tear(" + r + ")", NOTHING);
        }
    }

    static void promise01_noTexts(Run x) {
        x.due("count(8)", 0);
        for (int t = 0; t < 4; t++) {
            x.finds("put(" + t + ", 0, 1)", NOTHING);
            x.finds("fault(" + t + ")", NOTHING);
        }
    }

    static void promise01_noWorkers(Run x) {
        x.due("count(0)", 0);
        x.bad("worker(0, 0)");
        x.bad("lacks(0)");
        x.state("need()");
    }

    static void promise01_nothingElse(Run x) {
        for (int what = 0; what < 12; what++) {
            x.due("count(" + what + ")", 0);
        }
        for (int k = 0; k < 3; k++) {
            x.finds("on(" + k + ")", NOTHING);
        }
    }

    static void promise01_objectsShareNothing(Run x) {
        LoafParts other = new LoafParts();
        other.row(0, 3);
        other.lay(0, 0, 7);
        other.text(0, 3);
        other.tear(5);
        x.due("count(7)", 0);
        x.due("count(8)", 0);
        x.due("asked()", 0);
        x.due("finding()", 0);
        x.due("findings(1)", 0);
    }

    // ---- 2 row

    static void promise02_upTo40Ints(Run x) {
        x.due("row(0, 39)", 39);
        x.due("row(0, 40)", 40);
        x.tells("at(0, 39)", 1, 0);
        x.finds("at(0, 40)", BEYOND);
    }

    static void promise02_above40IsBad(Run x) {
        x.row(0, 5, 6);
        x.badAt("row(0, #)", 41, 42, 60, MAX);
        x.rowIs(0, 5, 6);
    }

    static void promise02_fewerThanNoneIsSize(Run x) {
        x.row(0, 5, 6);
        x.finds("row(0, -1)", SIZE);
        x.finds("row(0, MIN)", SIZE);
        x.finds("row(1, -1)", SIZE);
        x.rowIs(0, 5, 6);
        x.due("count(7)", 1);
    }

    static void promise02_ofNoIntsIsThere(Run x) {
        x.due("row(0, 0)", 0);
        x.due("count(7)", 1);
        x.rowIs(0);
    }

    static void promise02_rowsAreZeroToFive(Run x) {
        for (int r = 0; r < 6; r++) {
            x.due("row(" + r + ", " + (r + 1) + ")", r + 1);
            x.due("count(7)", r + 1);
        }
        x.badRow("row(#, 1)");
    }

    static void promise02_badAheadOfSize(Run x) {
        x.badRow("row(#, -1)");
        x.badRow("row(#, MIN)");
    }

    static void promise02_anewTheIntsAreZero(Run x) {
        x.row(0, 1, 2, 3);
        x.due("row(0, 3)", 3);
        x.rowIs(0, 0, 0, 0);
        x.row(1, 1, 2, 3);
        x.due("row(1, 1)", 1);
        x.rowIs(1, 0);
        x.due("row(1, 3)", 3);
        x.rowIs(1, 0, 0, 0);
        x.row(2, 4);
        x.call("tear(2)");
        x.due("row(2, 1)", 1);
        x.rowIs(2, 0);
    }

    static void promise02_othersStay(Run x) {
        x.row(1, 7, 8);
        x.row(3, 9);
        x.due("row(2, 40)", 40);
        x.rowIs(1, 7, 8);
        x.rowIs(3, 9);
    }

    // ---- 3 lay

    static void promise03_theFirstPlaceAndTheLast(Run x) {
        x.call("row(0, 40)");
        x.tells("lay(0, 0, 11)", 1, 0);
        x.tells("lay(0, 39, 12)", 1, 0);
        x.tells("lay(0, 0, 13)", 1, 11);
        x.tells("lay(0, 39, 14)", 1, 12);
        x.tells("at(0, 0)", 1, 13);
        x.tells("at(0, 39)", 1, 14);
        x.tells("at(0, 1)", 1, 0);
        x.tells("at(0, 38)", 1, 0);
    }

    static void promise03_anyInt(Run x) {
        x.call("row(0, 1)");
        x.tells("lay(0, 0, MIN)", 1, 0);
        x.tells("lay(0, 0, MAX)", 1, MIN);
        x.tells("lay(0, 0, -1)", 1, MAX);
        x.tells("lay(0, 0, 0)", 1, -1);
    }

    static void promise03_beyond(Run x) {
        x.row(0, 1, 2, 3);
        x.row(1, 9);
        x.finds("lay(0, 3, 7)", BEYOND);
        x.finds("lay(0, -1, 7)", BEYOND);
        x.finds("lay(0, 40, 7)", BEYOND);
        x.finds("lay(0, MIN, 7)", BEYOND);
        x.finds("lay(0, MAX, 7)", BEYOND);
        x.finds("lay(1, -1, 7)", BEYOND);
        x.rowIs(0, 1, 2, 3);
    }

    static void promise03_beyondInARowOfNone(Run x) {
        x.call("row(0, 0)");
        x.finds("lay(0, 0, 7)", BEYOND);
        x.finds("lay(0, -1, 7)", BEYOND);
    }

    static void promise03_beyondWhereARowWasLonger(Run x) {
        x.row(0, 1, 2, 3);
        x.call("row(0, 2)");
        x.finds("lay(0, 2, 7)", BEYOND);
    }

    static void promise03_nothingAheadOfBeyond(Run x) {
        x.finds("lay(0, 0, 7)", NOTHING);
        x.finds("lay(5, -1, 7)", NOTHING);
        x.finds("lay(5, 40, 7)", NOTHING);
        x.row(0, 1);
        x.call("tear(0)");
        x.finds("lay(0, 0, 7)", NOTHING);
    }

    static void promise03_bad(Run x) {
        x.call("row(0, 1)");
        x.call("row(5, 1)");
        x.due("lay(5, 0, 1)", 1);
        x.badRow("lay(#, 0, 1)");
        x.badRow("lay(#, -1, 1)");
    }

    // ---- 4 at

    static void promise04_theFirstPlaceAndTheLast(Run x) {
        x.row(0, 4, 5, 6);
        x.tells("at(0, 0)", 1, 4);
        x.tells("at(0, 2)", 1, 6);
        x.rowIs(0, 4, 5, 6);
        x.row(5, MIN, MAX);
        x.tells("at(5, 0)", 1, MIN);
        x.tells("at(5, 1)", 1, MAX);
    }

    static void promise04_beyond(Run x) {
        x.row(0, 1, 2, 3);
        x.row(1, 9);
        x.finds("at(0, 3)", BEYOND);
        x.finds("at(0, -1)", BEYOND);
        x.finds("at(0, 40)", BEYOND);
        x.finds("at(0, MIN)", BEYOND);
        x.finds("at(0, MAX)", BEYOND);
        x.finds("at(1, -1)", BEYOND);
    }

    static void promise04_beyondInARowOfNone(Run x) {
        x.call("row(0, 0)");
        x.finds("at(0, 0)", BEYOND);
    }

    static void promise04_nothingAheadOfBeyond(Run x) {
        x.finds("at(0, 0)", NOTHING);
        x.finds("at(5, -1)", NOTHING);
        x.finds("at(5, 40)", NOTHING);
    }

    static void promise04_bad(Run x) {
        x.row(5, 3);
        x.tells("at(5, 0)", 1, 3);
        x.badRow("at(#, 0)");
        x.badRow("at(#, -1)");
    }

    // ---- 5 tear

    static void promise05_aRowIsMissing(Run x) {
        x.row(1, 1);
        x.row(2, 2, 3);
        x.row(3, 4);
        x.due("tear(2)", 1);
        x.due("count(7)", 2);
        x.finds("at(2, 0)", NOTHING);
        x.rowIs(1, 1);
        x.rowIs(3, 4);
    }

    static void promise05_nothing(Run x) {
        x.finds("tear(0)", NOTHING);
        x.row(0, 1);
        x.due("tear(0)", 1);
        x.finds("tear(0)", NOTHING);
    }

    static void promise05_aRowOfNoneIsThere(Run x) {
        x.call("row(5, 0)");
        x.due("tear(5)", 1);
        x.finds("tear(5)", NOTHING);
    }

    static void promise05_bad(Run x) {
        x.row(0, 1);
        x.row(5, 1);
        x.badRow("tear(#)");
    }

    // ---- 6 copy

    static void promise06_toAnotherOne(Run x) {
        x.row(0, 1, 2, 3, 4, 5);
        x.row(1, 9, 9, 9);
        x.due("copy(0, 1, 1, 0, 2)", 1);
        x.rowIs(1, 2, 3, 9);
        x.rowIs(0, 1, 2, 3, 4, 5);
        x.due("copy(0, 0, 1, 2, 1)", 1);
        x.rowIs(1, 2, 3, 1);
    }

    static void promise06_uponItselfAsIfTakenAhead(Run x) {
        x.row(0, 1, 2, 3, 4, 5);
        x.due("copy(0, 0, 0, 1, 4)", 1);
        x.rowIs(0, 1, 1, 2, 3, 4);
        x.row(1, 1, 2, 3, 4, 5);
        x.due("copy(1, 1, 1, 0, 4)", 1);
        x.rowIs(1, 2, 3, 4, 5, 5);
        x.due("copy(1, 0, 1, 0, 5)", 1);
        x.rowIs(1, 2, 3, 4, 5, 5);
    }

    static void promise06_all40(Run x) {
        x.call("row(0, 40)");
        x.call("row(5, 40)");
        x.call("lay(0, 0, 7)");
        x.call("lay(0, 39, 8)");
        x.due("copy(0, 0, 5, 0, 40)", 1);
        x.tells("at(5, 0)", 1, 7);
        x.tells("at(5, 39)", 1, 8);
        x.finds("copy(0, 0, 5, 0, 41)", BEYOND);
        x.finds("copy(0, 1, 5, 0, 40)", BEYOND);
        x.finds("copy(0, 0, 5, 1, 40)", BEYOND);
    }

    static void promise06_noPlacesAtAll(Run x) {
        x.row(0, 1, 2);
        x.call("row(1, 0)");
        x.due("copy(0, 0, 0, 1, 0)", 1);
        x.due("copy(0, 2, 0, 2, 0)", 1);
        x.due("copy(0, 0, 1, 0, 0)", 1);
        x.due("copy(1, 0, 0, 2, 0)", 1);
        x.rowIs(0, 1, 2);
        x.rowIs(1);
        x.finds("copy(0, 3, 1, 0, 0)", BEYOND);
        x.finds("copy(0, 0, 1, 1, 0)", BEYOND);
        x.finds("copy(0, -1, 1, 0, 0)", BEYOND);
        x.finds("copy(0, 0, 1, -1, 0)", BEYOND);
    }

    static void promise06_fewerThanNoneIsSize(Run x) {
        x.row(0, 1, 2);
        x.row(1, 3, 4);
        x.finds("copy(0, 0, 1, 0, -1)", SIZE);
        x.finds("copy(0, 1, 1, 1, -1)", SIZE);
        x.finds("copy(0, 0, 1, 0, MIN)", SIZE);
        x.rowIs(1, 3, 4);
    }

    static void promise06_sizeAheadOfNothing(Run x) {
        x.row(0, 1, 2);
        x.finds("copy(0, 0, 2, 0, -1)", SIZE);
        x.finds("copy(2, 0, 0, 0, -1)", SIZE);
        x.finds("copy(2, 0, 3, 0, -1)", SIZE);
    }

    static void promise06_sizeAheadOfBeyond(Run x) {
        x.row(0, 1, 2);
        x.finds("copy(0, 9, 0, 9, -1)", SIZE);
    }

    static void promise06_nothingIfEitherIsMissing(Run x) {
        x.row(0, 1, 2);
        x.finds("copy(0, 0, 1, 0, 1)", NOTHING);
        x.finds("copy(1, 0, 0, 0, 1)", NOTHING);
        x.finds("copy(1, 0, 1, 0, 1)", NOTHING);
        x.finds("copy(1, 0, 0, 0, 0)", NOTHING);
        x.finds("copy(0, 0, 1, 0, 0)", NOTHING);
    }

    static void promise06_nothingAheadOfBeyond(Run x) {
        x.row(0, 1, 2);
        x.finds("copy(0, 9, 1, 0, 1)", NOTHING);
        x.finds("copy(1, 0, 0, 9, 1)", NOTHING);
        x.finds("copy(0, 0, 1, -1, 9)", NOTHING);
    }

    static void promise06_beyondWhereItComesFrom(Run x) {
        x.row(0, 1, 2, 3);
        x.call("row(1, 40)");
        x.due("copy(0, 1, 1, 0, 2)", 1);
        x.finds("copy(0, 1, 1, 0, 3)", BEYOND);
        x.finds("copy(0, 3, 1, 0, 1)", BEYOND);
        x.finds("copy(0, -1, 1, 0, 1)", BEYOND);
        x.finds("copy(0, MIN, 1, 0, 1)", BEYOND);
        x.finds("copy(0, MAX, 1, 0, 1)", BEYOND);
        x.finds("copy(0, 1, 1, 0, MAX)", BEYOND);
        x.finds("copy(0, MAX, 1, 0, MAX)", BEYOND);
    }

    static void promise06_beyondWhereItComesTo(Run x) {
        x.call("row(0, 40)");
        x.row(1, 1, 2, 3);
        x.due("copy(0, 0, 1, 1, 2)", 1);
        x.finds("copy(0, 0, 1, 1, 3)", BEYOND);
        x.finds("copy(0, 0, 1, 3, 1)", BEYOND);
        x.finds("copy(0, 0, 1, -1, 1)", BEYOND);
        x.finds("copy(0, 0, 1, MIN, 1)", BEYOND);
        x.finds("copy(0, 0, 1, MAX, 1)", BEYOND);
        x.finds("copy(0, 0, 1, MAX, 40)", BEYOND);
        x.rowIs(1, 1, 0, 0);
    }

    static void promise06_beyondUponItself(Run x) {
        x.row(0, 1, 2, 3);
        x.row(1, 7);
        x.finds("copy(0, 0, 0, 1, 3)", BEYOND);
        x.finds("copy(0, 1, 0, 0, 3)", BEYOND);
        x.rowIs(0, 1, 2, 3);
        x.rowIs(1, 7);
    }

    static void promise06_bad(Run x) {
        x.row(0, 1);
        x.row(5, 2);
        x.due("copy(5, 0, 0, 0, 1)", 1);
        x.badRow("copy(#, 0, 0, 0, 1)");
        x.badRow("copy(0, 0, #, 0, 1)");
    }

    static void promise06_badAheadOfAllOthers(Run x) {
        x.badRow("copy(#, 0, 0, 0, -1)");
        x.badRow("copy(0, 0, #, 0, -1)");
        x.badRow("copy(#, 0, 1, 0, 1)");
        x.badRow("copy(1, 0, #, 0, 1)");
    }

    // ---- 7 mean

    static void promise07_cutTowardNought(Run x) {
        x.row(0, 1, 2, 5);
        x.tells("mean(0)", 1, 2);
        x.row(0, 1, 2, 6);
        x.tells("mean(0)", 1, 3);
        x.row(0, 2, 3);
        x.tells("mean(0)", 1, 2);
        x.row(0, -2, -3);
        x.tells("mean(0)", 1, -2);
        x.row(0, 0, -1);
        x.tells("mean(0)", 1, 0);
        x.row(0, -1, -2, -6);
        x.tells("mean(0)", 1, -3);
    }

    static void promise07_ofOneInt(Run x) {
        x.row(5, -9);
        x.tells("mean(5)", 1, -9);
        x.row(5, MIN);
        x.tells("mean(5)", 1, MIN);
        x.row(5, MAX);
        x.tells("mean(5)", 1, MAX);
    }

    static void promise07_theSumDoesNotWrapAround(Run x) {
        x.row(0, MAX, 1);
        x.tells("mean(0)", 1, 1 << 30);
        x.row(0, MIN, -2);
        x.tells("mean(0)", 1, -(1 << 30) - 1);
        x.row(0, MIN, MAX);
        x.tells("mean(0)", 1, 0);
        x.call("row(0, 40)");
        x.call("row(1, 40)");
        for (int i = 0; i < 40; i++) {
            x.call("lay(0, " + i + ", MAX)");
            x.call("lay(1, " + i + ", MIN)");
        }
        x.tells("mean(0)", 1, MAX);
        x.tells("mean(1)", 1, MIN);
    }

    static void promise07_noughtAmongNone(Run x) {
        x.call("row(1, 0)");
        x.finds("mean(1)", NOUGHT);
        x.row(1, 7);
        x.tells("mean(1)", 1, 7);
        x.call("row(1, 0)");
        x.finds("mean(1)", NOUGHT);
    }

    static void promise07_nothing(Run x) {
        x.row(1, 7);
        x.finds("mean(0)", NOTHING);
        x.call("tear(1)");
        x.finds("mean(1)", NOTHING);
    }

    static void promise07_bad(Run x) {
        x.row(0, 7);
        x.badRow("mean(#)");
    }

    // ---- 8 text

    static void promise08_upTo60Bytes(Run x) {
        x.due("text(0, 59)", 59);
        x.due("text(0, 60)", 60);
        x.due("put(0, 59, 7)", 1032);
        x.finds("put(0, 60, 7)", BEYOND);
    }

    static void promise08_above60IsBad(Run x) {
        x.text(0, "ab");
        x.badAt("text(0, #)", 61, 62, MAX);
        x.due("put(0, 1, 0)", 1000 + 'b');
    }

    static void promise08_fewerThanNoneIsSize(Run x) {
        x.text(0, "ab");
        x.finds("text(0, -1)", SIZE);
        x.finds("text(0, MIN)", SIZE);
        x.finds("text(1, -1)", SIZE);
        x.due("count(8)", 1);
        x.due("put(0, 1, 0)", 1000 + 'b');
    }

    static void promise08_ofNoBytesIsThere(Run x) {
        x.due("text(0, 0)", 0);
        x.due("count(8)", 1);
        x.finds("put(0, 0, 7)", BEYOND);
    }

    static void promise08_textsAreZeroToThree(Run x) {
        for (int t = 0; t < 4; t++) {
            x.due("text(" + t + ", " + (t + 41) + ")", t + 41);
            x.due("count(8)", t + 1);
        }
        x.badText("text(#, 1)");
        x.bad("text(5, 1)");
    }

    static void promise08_badAheadOfSize(Run x) {
        x.badText("text(#, -1)");
    }

    static void promise08_anewTheBytesAreBlanks(Run x) {
        x.text(2, "abc");
        x.due("text(2, 2)", 2);
        x.due("text(2, 3)", 3);
        for (int i = 0; i < 3; i++) {
            x.due("put(2, " + i + ", 7)", 1032);
        }
    }

    static void promise08_othersStay(Run x) {
        x.text(0, "a");
        x.text(2, "b");
        x.row(1, 5);
        x.due("text(1, 60)", 60);
        x.due("put(0, 0, 7)", 1000 + 'a');
        x.due("put(2, 0, 7)", 1000 + 'b');
        x.rowIs(1, 5);
    }

    // ---- 9 put

    static void promise09_cutToAByte(Run x) {
        x.call("text(0, 1)");
        x.due("put(0, 0, 127)", 1032);
        x.due("put(0, 0, 128)", 1000 + 127);
        x.due("put(0, 0, 255)", 1000 - 128);
        x.due("put(0, 0, 256)", 1000 - 1);
        x.due("put(0, 0, 257)", 1000);
        x.due("put(0, 0, -1)", 1000 + 1);
        x.due("put(0, 0, -128)", 1000 - 1);
        x.due("put(0, 0, -129)", 1000 - 128);
        x.due("put(0, 0, MAX)", 1000 + 127);
        x.due("put(0, 0, MIN)", 1000 - 1);
        x.due("put(0, 0, 0)", 1000);
    }

    static void promise09_theFirstPlaceAndTheLast(Run x) {
        x.call("text(3, 60)");
        x.due("put(3, 0, 65)", 1032);
        x.due("put(3, 59, 66)", 1032);
        x.due("put(3, 0, 1)", 1065);
        x.due("put(3, 59, 1)", 1066);
        x.due("put(3, 1, 1)", 1032);
        x.due("put(3, 58, 1)", 1032);
    }

    static void promise09_beyond(Run x) {
        x.text(0, "a");
        x.text(1, "bc");
        x.finds("put(1, 2, 7)", BEYOND);
        x.finds("put(1, -1, 7)", BEYOND);
        x.finds("put(1, 60, 7)", BEYOND);
        x.finds("put(1, MIN, 7)", BEYOND);
        x.finds("put(1, MAX, 7)", BEYOND);
        x.due("put(1, 0, 7)", 1000 + 'b');
        x.due("put(1, 1, 7)", 1000 + 'c');
        x.due("put(0, 0, 7)", 1000 + 'a');
    }

    static void promise09_beyondInATextOfNone(Run x) {
        x.call("text(0, 0)");
        x.finds("put(0, 0, 7)", BEYOND);
    }

    static void promise09_nothingAheadOfBeyond(Run x) {
        x.finds("put(0, 0, 7)", NOTHING);
        x.finds("put(3, -1, 7)", NOTHING);
        x.finds("put(3, 60, 7)", NOTHING);
    }

    static void promise09_bad(Run x) {
        x.text(0, "a");
        x.text(3, "b");
        x.badText("put(#, 0, 7)");
        x.badText("put(#, -1, 7)");
    }
}
