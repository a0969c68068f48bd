/** Boundary cases of part 1, ROWS, and of the promises 2 to 5. */
final class EdgesOfRows {
    private static final int BAD = LiftEnvy.BAD;
    private static final int NULL = -1000011, PLACE = -1000012, SIZE = -1000014, STORE = -1000015;
    private static final int LOW = Integer.MIN_VALUE, HIGH = Integer.MAX_VALUE;
    private static final int BYTES = 0, SHORTS = 1, INTS = 2;

    private EdgesOfRows() {
    }

    private static LiftEnvy withRow(int lane, int n) {
        LiftEnvy x = new LiftEnvy();
        x.row(0, lane, n);
        return x;
    }

    /** Two rows of bytes: row 0 has 1, 2, 3 and so on; row 1 has zeros. */
    private static LiftEnvy withTwo(int n, int m) {
        LiftEnvy x = new LiftEnvy();
        x.row(0, BYTES, n);
        x.row(1, BYTES, m);
        for (int i = 0; i < n; i++) {
            x.set(0, i, i + 1);
        }
        return x;
    }

    /** No call reads an item: it is held against where the car of a small house stays. */
    private static void isItem(LiftEnvy x, int row, int i, int v) {
        Due.told(x, "f9," + v + ";c0,0,0,0;");
        Due.is("whether item " + i + " of row " + row + " is " + v, x.fits(0, row, i, 1, 0), 62);
    }

    private static void areItems(LiftEnvy x, int row, int... items) {
        for (int i = 0; i < items.length; i++) {
            isItem(x, row, i, items[i]);
        }
    }

    // ---- part 1

    @Says(promise = 2, text = "ROWS 0 .. 7 are missing (at first)")
    static void rowsAreMissingAtFirst() {
        LiftEnvy x = new LiftEnvy();
        Due.each("drop(v)", x::drop, NULL, 0, 1, 2, 3, 4, 5, 6, 7);
        Due.is("count(0)", x.count(0), 0);
    }

    @Says(promise = 2, text = "ROWS 0 .. 7")
    static void allEightRowsCanBe() {
        LiftEnvy x = new LiftEnvy();
        for (int r = 0; r <= 7; r++) {
            Due.is("row(" + r + ", 0, r + 1)", x.row(r, BYTES, r + 1), r + 1);
            Due.is("count(0)", x.count(0), r + 1);
        }
        for (int r = 0; r <= 7; r++) {
            Due.is("each has its own ITEMS: drop(" + r + ")", x.drop(r), r + 1);
        }
    }

    @Says(promise = 2, text = "0 to 40 ITEMS, 0 at first.")
    static void itemsAre0AtFirst() {
        LiftEnvy x = withRow(INTS, 40);
        isItem(x, 0, 0, 0);
        isItem(x, 0, 39, 0);
    }

    @Says(promise = 2, text = "0 to 40 ITEMS, 0 at first.")
    static void itemsAre0AgainInAnotherRow() {
        LiftEnvy x = withTwo(9, 0);
        x.row(0, BYTES, 9);
        areItems(x, 0, 0, 0, 0, 0, 0, 0, 0, 0, 0);
    }

    @Says(promise = 2, text = "0 to 40 ITEMS, 0 at first.")
    static void itemsAre0AgainBehindADrop() {
        LiftEnvy x = withTwo(3, 0);
        x.drop(0);
        x.row(0, BYTES, 3);
        areItems(x, 0, 0, 0, 0);
    }

    @Says(promise = 2, text = "0 to 40 ITEMS, 0 at first.")
    static void itemsAre0InARowThatWasShorter() {
        LiftEnvy x = withTwo(9, 0);
        x.row(0, BYTES, 1);
        x.row(0, BYTES, 9);
        isItem(x, 0, 8, 0);
    }

    // ---- promise 2

    @Says(promise = 2, text = "BAD: ROW, LANE, n above 40")
    static void rowBelowTheFirst() {
        Due.tooSmall("row(v, 0, 1)", v -> new LiftEnvy().row(v, BYTES, 1), 0);
    }

    @Says(promise = 2, text = "BAD: ROW, LANE, n above 40")
    static void rowBeyondTheLast() {
        Due.tooLarge("row(v, 0, 1)", v -> new LiftEnvy().row(v, BYTES, 1), 7);
    }

    @Says(promise = 2, text = "have a LANE (0 bytes, 1 shorts, 2 ints)")
    static void laneBelowTheFirst() {
        Due.tooSmall("row(0, v, 1)", v -> new LiftEnvy().row(0, v, 1), 0);
    }

    @Says(promise = 2, text = "have a LANE (0 bytes, 1 shorts, 2 ints)")
    static void laneBeyondTheLast() {
        Due.tooLarge("row(0, v, 1)", v -> new LiftEnvy().row(0, v, 1), 2);
    }

    @Says(promise = 2, text = "n above 40")
    static void mostItems() {
        Due.each("row(0, v, 40)", v -> new LiftEnvy().row(0, v, 40), 40, BYTES, SHORTS, INTS);
    }

    @Says(promise = 2, text = "n above 40")
    static void moreItemsThanMost() {
        Due.tooLarge("row(0, 0, v)", v -> new LiftEnvy().row(0, BYTES, v), 40);
    }

    @Says(promise = 2, text = "with n ITEMS, in place of what is there: n.")
    static void noItems() {
        LiftEnvy x = new LiftEnvy();
        Due.is("row(0, 0, 0)", x.row(0, BYTES, 0), 0);
        Due.is("it is there: count(0)", x.count(0), 1);
    }

    @Says(promise = 2, text = "SIZE (fewer than none)")
    static void fewerThanNone() {
        Due.each("row(0, 0, v)", v -> new LiftEnvy().row(0, BYTES, v), SIZE, -1);
        Due.each("row(0, 0, v)", v -> new LiftEnvy().row(0, BYTES, v), SIZE, Due.FAR_BELOW);
    }

    @Says(promise = 2, text = "What is refused, or found, changes nothing")
    static void fewerThanNoneLeavesTheRow() {
        LiftEnvy x = withTwo(2, 0);
        x.row(0, INTS, -1);
        areItems(x, 0, 1, 2);
        Due.is("drop(0)", x.drop(0), 2);
    }

    @Says(promise = 2, text = "What is refused, or found, changes nothing")
    static void moreThanMostLeavesTheRow() {
        LiftEnvy x = withTwo(2, 0);
        x.row(0, INTS, 41);
        areItems(x, 0, 1, 2);
        Due.is("drop(0)", x.drop(0), 2);
    }

    @Says(promise = 2, text = "in place of what is there: n.")
    static void rowOfAnotherLaneInPlace() {
        LiftEnvy x = withRow(BYTES, 3);
        Due.is("row(0, 2, 3)", x.row(0, INTS, 3), 3);
        Due.is("set(0, 0, 256)", x.set(0, 0, 256), 256);
        Due.is("count(0)", x.count(0), 1);
    }

    @Says(promise = 2, text = "in place of what is there: n.")
    static void shorterRowInPlace() {
        LiftEnvy x = withRow(BYTES, 3);
        x.row(0, BYTES, 2);
        Due.is("set(0, 2, 1)", x.set(0, 2, 1), PLACE);
    }

    @Says(promise = 2, text = "in place of what is there: n.")
    static void otherRowsStay() {
        LiftEnvy x = withTwo(2, 2);
        x.row(1, INTS, 5);
        areItems(x, 0, 1, 2);
        Due.is("drop(0)", x.drop(0), 2);
    }

    // ---- promise 3

    @Says(promise = 3, text = "its lowest bits, as many as the LANE has")
    static void bytesWrapAround() {
        LiftEnvy x = withRow(BYTES, 1);
        int[] set = {0, 127, 128, 255, 256, -1, -128, -129, 383, 384, LOW, HIGH};
        int[] is = {0, 127, -128, -1, 0, -1, -128, 127, 127, -128, 0, -1};
        for (int k = 0; k < set.length; k++) {
            Due.is("set(0, 0, " + set[k] + ")", x.set(0, 0, set[k]), is[k]);
        }
    }

    @Says(promise = 3, text = "its lowest bits, as many as the LANE has")
    static void shortsWrapAround() {
        LiftEnvy x = withRow(SHORTS, 1);
        int[] set = {255, 256, 32767, 32768, 65535, 65536, -32768, -32769, 98303, LOW, HIGH};
        int[] is = {255, 256, 32767, -32768, -1, 0, -32768, 32767, 32767, 0, -1};
        for (int k = 0; k < set.length; k++) {
            Due.is("set(0, 0, " + set[k] + ")", x.set(0, 0, set[k]), is[k]);
        }
    }

    @Says(promise = 3, text = "its lowest bits, as many as the LANE has")
    static void intsStayAsTheyAre() {
        LiftEnvy x = withRow(INTS, 1);
        for (int v : new int[] {0, 32768, 65536, -32769, HIGH, LOW, LiftEnvy.BAD}) {
            Due.is("set(0, 0, " + v + ")", x.set(0, 0, v), v);
        }
    }

    @Says(promise = 3, text = "ITEM i becomes v")
    static void firstItemAndLastItem() {
        LiftEnvy x = withRow(BYTES, 40);
        Due.is("set(0, 0, 3)", x.set(0, 0, 3), 3);
        Due.is("set(0, 39, 4)", x.set(0, 39, 4), 4);
        isItem(x, 0, 0, 3);
        isItem(x, 0, 1, 0);
        isItem(x, 0, 38, 0);
        isItem(x, 0, 39, 4);
    }

    @Says(promise = 3, text = "PLACE (no such place of a ROW)")
    static void itemBelowTheFirst() {
        LiftEnvy x = withRow(BYTES, 3);
        Due.each("set(0, v, 1)", v -> x.set(0, v, 1), PLACE, -1);
        Due.each("set(0, v, 1)", v -> x.set(0, v, 1), PLACE, Due.FAR_BELOW);
    }

    @Says(promise = 3, text = "PLACE (no such place of a ROW)")
    static void itemBeyondTheLast() {
        LiftEnvy x = withRow(BYTES, 3);
        Due.each("set(0, v, 1)", v -> x.set(0, v, 1), PLACE, 3, 4, 39, 40, 41);
        Due.each("set(0, v, 1)", v -> x.set(0, v, 1), PLACE, Due.FAR_ABOVE);
    }

    @Says(promise = 3, text = "PLACE (no such place of a ROW)")
    static void itemBeyondALongestRow() {
        Due.is("set(0, 40, 1)", withRow(INTS, 40).set(0, 40, 1), PLACE);
    }

    @Says(promise = 3, text = "PLACE (no such place of a ROW)")
    static void itemOfAnEmptyRow() {
        Due.is("set(0, 0, 1)", withRow(BYTES, 0).set(0, 0, 1), PLACE);
    }

    @Says(promise = 3, text = "NULL (a ROW that is missing)")
    static void itemOfAMissingRow() {
        Due.is("set(1, 0, 1)", withRow(BYTES, 3).set(1, 0, 1), NULL);
    }

    @Says(promise = 3, text = "NULL (a ROW that is missing)")
    static void itemOfADroppedRow() {
        LiftEnvy x = withRow(BYTES, 3);
        x.drop(0);
        Due.is("set(0, 0, 1)", x.set(0, 0, 1), NULL);
    }

    @Says(promise = 3, text = "BAD: ROW; NULL; PLACE.")
    static void setOfNoRow() {
        LiftEnvy x = withRow(BYTES, 3);
        Due.tooSmall("set(v, 0, 1)", v -> x.set(v, 0, 1), 0);
        Due.tooLarge("set(v, 0, 1)", v -> x.set(v, 0, 1), 7);
    }

    @Says(promise = 3, text = "What is refused, or found, changes nothing")
    static void setThatIsFoundLeavesTheItems() {
        LiftEnvy x = withTwo(3, 0);
        x.set(0, -1, 9);
        x.set(0, 3, 9);
        areItems(x, 0, 1, 2, 3);
    }

    // ---- promise 4

    @Says(promise = 4, text = "as they were ahead: n.")
    static void copyUpwardsWithinARow() {
        LiftEnvy x = withTwo(5, 0);
        Due.is("copy(0, 0, 0, 1, 4)", x.copy(0, 0, 0, 1, 4), 4);
        areItems(x, 0, 1, 1, 2, 3, 4);
    }

    @Says(promise = 4, text = "as they were ahead: n.")
    static void copyDownwardsWithinARow() {
        LiftEnvy x = withTwo(5, 0);
        Due.is("copy(0, 1, 0, 0, 4)", x.copy(0, 1, 0, 0, 4), 4);
        areItems(x, 0, 2, 3, 4, 5, 5);
    }

    @Says(promise = 4, text = "as they were ahead: n.")
    static void copyOntoItself() {
        LiftEnvy x = withTwo(4, 0);
        Due.is("copy(0, 0, 0, 0, 4)", x.copy(0, 0, 0, 0, 4), 4);
        areItems(x, 0, 1, 2, 3, 4);
    }

    @Says(promise = 4, text = "n ITEMS of a from i on come to b from j on")
    static void copyOfNone() {
        LiftEnvy x = withTwo(2, 2);
        Due.is("copy(0, 0, 1, 0, 0)", x.copy(0, 0, 1, 0, 0), 0);
        areItems(x, 1, 0, 0);
    }

    @Says(promise = 4, text = "n ITEMS of a from i on come to b from j on")
    static void copyOfNoneAtBothEnds() {
        LiftEnvy x = withTwo(2, 3);
        Due.is("copy(0, 2, 1, 3, 0)", x.copy(0, 2, 1, 3, 0), 0);
        Due.is("copy(0, 2, 1, 3, 0) found", x.status(), 0);
    }

    @Says(promise = 4, text = "n ITEMS of a from i on come to b from j on")
    static void copyOfNoneBetweenEmptyRows() {
        Due.is("copy(0, 0, 1, 0, 0)", withTwo(0, 0).copy(0, 0, 1, 0, 0), 0);
    }

    @Says(promise = 4, text = "n ITEMS of a from i on come to b from j on")
    static void copyOfAWholeLongestRow() {
        LiftEnvy x = new LiftEnvy();
        x.row(0, SHORTS, 40);
        x.row(7, SHORTS, 40);
        x.set(0, 0, 6);
        x.set(0, 39, 8);
        Due.is("copy(0, 0, 7, 0, 40)", x.copy(0, 0, 7, 0, 40), 40);
        isItem(x, 7, 0, 6);
        isItem(x, 7, 38, 0);
        isItem(x, 7, 39, 8);
    }

    @Says(promise = 4, text = "n ITEMS of a from i on come to b from j on")
    static void copyToTheVeryEnd() {
        LiftEnvy x = withTwo(5, 3);
        Due.is("copy(0, 3, 1, 1, 2)", x.copy(0, 3, 1, 1, 2), 2);
        areItems(x, 1, 0, 4, 5);
        areItems(x, 0, 1, 2, 3, 4, 5);
    }

    @Says(promise = 4, text = "BAD: ROWS; NULL; STORE; PLACE")
    static void copyOfNoRow() {
        LiftEnvy x = withTwo(3, 3);
        Due.tooSmall("copy(v, 0, 1, 0, 1)", v -> x.copy(v, 0, 1, 0, 1), 0);
        Due.tooLarge("copy(v, 0, 1, 0, 1)", v -> x.copy(v, 0, 1, 0, 1), 7);
    }

    @Says(promise = 4, text = "BAD: ROWS; NULL; STORE; PLACE")
    static void copyToNoRow() {
        LiftEnvy x = withTwo(3, 3);
        Due.tooSmall("copy(0, 0, v, 0, 1)", v -> x.copy(0, 0, v, 0, 1), 0);
        Due.tooLarge("copy(0, 0, v, 0, 1)", v -> x.copy(0, 0, v, 0, 1), 7);
    }

    @Says(promise = 4, text = "NULL (a ROW that is missing)")
    static void copyOfAMissingRow() {
        Due.is("copy(7, 0, 0, 0, 0)", withTwo(3, 3).copy(7, 0, 0, 0, 0), NULL);
    }

    @Says(promise = 4, text = "NULL (a ROW that is missing)")
    static void copyToAMissingRow() {
        Due.is("copy(0, 0, 7, 0, 0)", withTwo(3, 3).copy(0, 0, 7, 0, 0), NULL);
    }

    @Says(promise = 4, text = "NULL (a ROW that is missing)")
    static void copyOfADroppedRowToItself() {
        LiftEnvy x = withTwo(3, 3);
        x.drop(0);
        Due.is("copy(0, 0, 0, 0, 0)", x.copy(0, 0, 0, 0, 0), NULL);
    }

    @Says(promise = 4, text = "STORE (ROWS of two LANES)")
    static void copyBetweenLanes() {
        LiftEnvy x = new LiftEnvy();
        for (int lane = BYTES; lane <= INTS; lane++) {
            x.row(lane, lane, 4);
        }
        for (int a = BYTES; a <= INTS; a++) {
            for (int b = BYTES; b <= INTS; b++) {
                Due.is("copy(" + a + ", 0, " + b + ", 0, 2)", x.copy(a, 0, b, 0, 2),
                    a == b ? 2 : STORE);
            }
        }
    }

    @Says(promise = 4, text = "STORE (ROWS of two LANES)")
    static void copyOfNoneBetweenLanes() {
        LiftEnvy x = withRow(BYTES, 0);
        x.row(1, SHORTS, 0);
        Due.is("copy(0, 0, 1, 0, 0)", x.copy(0, 0, 1, 0, 0), STORE);
    }

    @Says(promise = 4, text = "PLACE (i, j, n below 0, or beyond an end)")
    static void copyFromBelow() {
        LiftEnvy x = withTwo(5, 5);
        Due.each("copy(0, v, 1, 0, 1)", v -> x.copy(0, v, 1, 0, 1), PLACE, -1);
        Due.each("copy(0, v, 1, 0, 1)", v -> x.copy(0, v, 1, 0, 1), PLACE, Due.FAR_BELOW);
        Due.is("copy(0, -1, 1, 0, 0)", x.copy(0, -1, 1, 0, 0), PLACE);
    }

    @Says(promise = 4, text = "PLACE (i, j, n below 0, or beyond an end)")
    static void copyToBelow() {
        LiftEnvy x = withTwo(5, 5);
        Due.each("copy(0, 0, 1, v, 1)", v -> x.copy(0, 0, 1, v, 1), PLACE, -1);
        Due.each("copy(0, 0, 1, v, 1)", v -> x.copy(0, 0, 1, v, 1), PLACE, Due.FAR_BELOW);
        Due.is("copy(0, 0, 1, -1, 0)", x.copy(0, 0, 1, -1, 0), PLACE);
    }

    @Says(promise = 4, text = "PLACE (i, j, n below 0, or beyond an end)")
    static void copyOfFewerThanNone() {
        LiftEnvy x = withTwo(5, 5);
        Due.each("copy(0, 2, 1, 2, v)", v -> x.copy(0, 2, 1, 2, v), PLACE, -1);
        Due.each("copy(0, 2, 1, 2, v)", v -> x.copy(0, 2, 1, 2, v), PLACE, Due.FAR_BELOW);
    }

    @Says(promise = 4, text = "PLACE (i, j, n below 0, or beyond an end)")
    static void copyBeyondTheFirstEnd() {
        LiftEnvy x = withTwo(3, 9);
        Due.each("copy(0, 0, 1, 0, v)", v -> x.copy(0, 0, 1, 0, v), PLACE, 4, 9);
        Due.each("copy(0, 0, 1, 0, v)", v -> x.copy(0, 0, 1, 0, v), PLACE, Due.FAR_ABOVE);
        Due.each("copy(0, v, 1, 0, 1)", v -> x.copy(0, v, 1, 0, 1), PLACE, 3, 4);
        Due.each("copy(0, v, 1, 0, 1)", v -> x.copy(0, v, 1, 0, 1), PLACE, Due.FAR_ABOVE);
        Due.is("copy(0, 2, 1, 0, 2)", x.copy(0, 2, 1, 0, 2), PLACE);
        Due.is("copy(0, 4, 1, 0, 0)", x.copy(0, 4, 1, 0, 0), PLACE);
    }

    @Says(promise = 4, text = "PLACE (i, j, n below 0, or beyond an end)")
    static void copyBeyondTheSecondEnd() {
        LiftEnvy x = withTwo(9, 3);
        Due.each("copy(0, 0, 1, 0, v)", v -> x.copy(0, 0, 1, 0, v), PLACE, 4, 9);
        Due.each("copy(0, 0, 1, v, 1)", v -> x.copy(0, 0, 1, v, 1), PLACE, 3, 4);
        Due.each("copy(0, 0, 1, v, 1)", v -> x.copy(0, 0, 1, v, 1), PLACE, Due.FAR_ABOVE);
        Due.is("copy(0, 0, 1, 2, 2)", x.copy(0, 0, 1, 2, 2), PLACE);
        Due.is("copy(0, 0, 1, 4, 0)", x.copy(0, 0, 1, 4, 0), PLACE);
    }

    @Says(promise = 4, text = "PLACE (i, j, n below 0, or beyond an end)")
    static void copyWhoseSumsWrapAround() {
        LiftEnvy x = withTwo(5, 5);
        Due.is("copy(0, HIGH, 1, 0, HIGH)", x.copy(0, HIGH, 1, 0, HIGH), PLACE);
        Due.is("copy(0, 1, 1, 1, HIGH)", x.copy(0, 1, 1, 1, HIGH), PLACE);
        Due.is("copy(0, HIGH, 1, 0, 1)", x.copy(0, HIGH, 1, 0, 1), PLACE);
        Due.is("copy(0, 0, 1, HIGH, 1)", x.copy(0, 0, 1, HIGH, 1), PLACE);
        Due.is("copy(0, LOW, 1, LOW, LOW)", x.copy(0, LOW, 1, LOW, LOW), PLACE);
        areItems(x, 1, 0, 0, 0, 0, 0);
    }

    @Says(promise = 4, text = "What is refused, or found, changes nothing")
    static void copyThatIsFoundLeavesTheItems() {
        LiftEnvy x = withTwo(5, 3);
        Due.is("copy(0, 0, 1, 1, 3)", x.copy(0, 0, 1, 1, 3), PLACE);
        areItems(x, 1, 0, 0, 0);
    }

    // ---- promise 5

    @Says(promise = 5, text = "how many ITEMS it had")
    static void dropOfAnEmptyRow() {
        LiftEnvy x = withRow(BYTES, 0);
        Due.is("drop(0)", x.drop(0), 0);
        Due.is("count(0)", x.count(0), 0);
    }

    @Says(promise = 5, text = "how many ITEMS it had")
    static void dropOfALongestRow() {
        Due.is("drop(0)", withRow(INTS, 40).drop(0), 40);
    }

    @Says(promise = 5, text = "A ROW is missing from now on")
    static void dropOfADroppedRow() {
        LiftEnvy x = withRow(BYTES, 3);
        x.drop(0);
        Due.is("drop(0)", x.drop(0), NULL);
    }

    @Says(promise = 5, text = "A ROW is missing from now on")
    static void dropLeavesTheOthers() {
        LiftEnvy x = withTwo(2, 3);
        x.drop(1);
        areItems(x, 0, 1, 2);
        Due.is("count(0)", x.count(0), 1);
    }

    @Says(promise = 5, text = "BAD; NULL.")
    static void dropOfNoRow() {
        LiftEnvy x = withRow(BYTES, 3);
        Due.tooSmall("drop(v)", x::drop, 0);
        Due.tooLarge("drop(v)", x::drop, 7);
        Due.is("count(0)", x.count(0), 1);
    }
}
