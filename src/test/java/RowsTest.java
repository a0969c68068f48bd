/** Promises 2 to 5 and 33: row, set, copy, drop and what status() says of them. */
public final class RowsTest {
    private static final int NULL = -1000011, PLACE = -1000012, SIZE = -1000014, STORE = -1000015;
    private static final int LOW = Integer.MIN_VALUE, HIGH = Integer.MAX_VALUE;

    public static void main(String[] args) {
        rows();
        items();
        copies();
        copiesRefused();
        drops();
        statuses();
        Due.end();
    }

    private static void rows() {
        LiftEnvy x = new LiftEnvy();
        Due.is("row(0, 0, 0)", x.row(0, 0, 0), 0);
        Due.is("row(7, 2, 40)", x.row(7, 2, 40), 40);
        Due.is("count(0)", x.count(0), 2);
        Due.is("row(8, 0, 1)", x.row(8, 0, 1), LiftEnvy.BAD);
        Due.is("row(-1, 0, -1)", x.row(-1, 0, -1), LiftEnvy.BAD);
        Due.is("row(0, 3, -1)", x.row(0, 3, -1), LiftEnvy.BAD);
        Due.is("row(0, -1, 1)", x.row(0, -1, 1), LiftEnvy.BAD);
        Due.is("row(0, 0, 41)", x.row(0, 0, 41), LiftEnvy.BAD);
        Due.is("row(0, 0, HIGH)", x.row(0, 0, HIGH), LiftEnvy.BAD);
        Due.is("row(1, 0, -1)", x.row(1, 0, -1), SIZE);
        Due.is("row(1, 0, LOW)", x.row(1, 0, LOW), SIZE);
        Due.is("count(0) as before", x.count(0), 2);
        x.set(7, 0, 3);
        x.set(7, 39, 5);
        Due.is("row(7, 2, -1)", x.row(7, 2, -1), SIZE);
        x.row(6, 2, 40);
        x.copy(7, 39, 6, 0, 1);
        x.row(7, 2, 40);
        isItem("the first item of a new row", x, 7, 0, 0);
        isItem("the last item of a new row", x, 7, 39, 0);
        isItem("an item of the old row", x, 6, 0, 5);
    }

    /** No call reads an item: it is held against where the car of a small house stays. */
    private static void isItem(String what, LiftEnvy x, int row, int i, int v) {
        Due.told(x, "f9," + v + ";c0,0,0,0;");
        Due.is(what + ", whether it is " + v, x.fits(0, row, i, 1, 0), 62);
    }

    private static void items() {
        LiftEnvy x = new LiftEnvy();
        x.row(0, 0, 3);
        x.row(1, 1, 3);
        x.row(2, 2, 3);
        Due.is("set(0, 2, 127)", x.set(0, 2, 127), 127);
        Due.is("set(0, 2, 128)", x.set(0, 2, 128), -128);
        Due.is("set(0, 2, -129)", x.set(0, 2, -129), 127);
        Due.is("set(0, 2, 256)", x.set(0, 2, 256), 0);
        Due.is("set(1, 0, 32768)", x.set(1, 0, 32768), -32768);
        Due.is("set(1, 0, 65535)", x.set(1, 0, 65535), -1);
        Due.is("set(2, 0, HIGH)", x.set(2, 0, HIGH), HIGH);
        Due.is("set(2, 0, LOW)", x.set(2, 0, LOW), LOW);
        Due.is("set(0, 3, 1)", x.set(0, 3, 1), PLACE);
        Due.is("set(0, -1, 1)", x.set(0, -1, 1), PLACE);
        Due.is("set(0, HIGH, 1)", x.set(0, HIGH, 1), PLACE);
        Due.is("set(0, LOW, 1)", x.set(0, LOW, 1), PLACE);
        Due.is("set(3, -1, 1)", x.set(3, -1, 1), NULL);
        Due.is("set(8, 0, 1)", x.set(8, 0, 1), LiftEnvy.BAD);
        Due.is("set(-1, 0, 1)", x.set(-1, 0, 1), LiftEnvy.BAD);
        x.row(4, 0, 0);
        Due.is("set(4, 0, 1)", x.set(4, 0, 1), PLACE);
    }

    private static void copies() {
        LiftEnvy x = new LiftEnvy();
        x.row(0, 0, 5);
        x.row(1, 0, 3);
        for (int i = 0; i < 5; i++) {
            x.set(0, i, i + 1);
        }
        Due.is("copy forward", x.copy(0, 0, 0, 1, 4), 4);
        isRow(x, 0, 1, 1, 2, 3, 4);
        Due.is("copy back", x.copy(0, 2, 0, 0, 3), 3);
        isRow(x, 0, 2, 3, 4, 3, 4);
        Due.is("copy to another", x.copy(0, 1, 1, 0, 3), 3);
        isRow(x, 1, 3, 4, 3);
        Due.is("copy of none at both ends", x.copy(0, 5, 1, 3, 0), 0);
        isRow(x, 1, 3, 4, 3);
    }

    private static void isRow(LiftEnvy x, int row, int... items) {
        for (int i = 0; i < items.length; i++) {
            isItem("item " + i + " of row " + row, x, row, i, items[i]);
        }
    }

    private static void copiesRefused() {
        LiftEnvy x = new LiftEnvy();
        x.row(0, 0, 4);
        x.row(1, 1, 4);
        x.row(2, 0, 2);
        Due.is("copy(8, ..)", x.copy(8, 0, 0, 0, 1), LiftEnvy.BAD);
        Due.is("copy(.., -1, ..)", x.copy(0, 0, -1, 0, 1), LiftEnvy.BAD);
        Due.is("copy of a missing one to BAD", x.copy(5, 0, 8, 0, 1), LiftEnvy.BAD);
        Due.is("NULL ahead of PLACE", x.copy(5, -1, 0, 0, 1), NULL);
        Due.is("NULL of the second", x.copy(0, 0, 5, 0, 1), NULL);
        Due.is("STORE ahead of PLACE", x.copy(0, -1, 1, 0, 99), STORE);
        Due.is("STORE of none", x.copy(0, 0, 1, 0, 0), STORE);
        Due.is("i below 0", x.copy(0, -1, 2, 0, 1), PLACE);
        Due.is("j below 0", x.copy(0, 0, 2, -1, 1), PLACE);
        Due.is("n below 0", x.copy(0, 2, 2, 2, -1), PLACE);
        Due.is("beyond the end of a", x.copy(2, 1, 0, 0, 2), PLACE);
        Due.is("beyond the end of b", x.copy(0, 0, 2, 1, 2), PLACE);
        Due.is("none beyond the end", x.copy(0, 5, 2, 0, 0), PLACE);
        Due.is("i + n beyond an int", x.copy(0, HIGH, 2, 0, HIGH), PLACE);
        Due.is("n beyond an int", x.copy(0, 1, 2, 0, HIGH), PLACE);
        Due.is("all below", x.copy(0, LOW, 2, LOW, LOW), PLACE);
        isRow(x, 2, 0, 0);
    }

    private static void drops() {
        LiftEnvy x = new LiftEnvy();
        x.row(3, 1, 17);
        Due.is("drop(3)", x.drop(3), 17);
        Due.is("count(0)", x.count(0), 0);
        Due.is("drop(3) again", x.drop(3), NULL);
        Due.is("set(3, 0, 0)", x.set(3, 0, 0), NULL);
        Due.is("drop(8)", x.drop(8), LiftEnvy.BAD);
        Due.is("drop(-1)", x.drop(-1), LiftEnvy.BAD);
        x.row(3, 0, 0);
        Due.is("drop(3) of an empty one", x.drop(3), 0);
    }

    private static void statuses() {
        LiftEnvy x = Due.housed("f1,0;c0,0,0,0;");
        Due.is("status() at first", x.status(), 0);
        x.row(0, 0, -1);
        Due.is("status() of SIZE", x.status(), 4);
        x.row(0, 0, 41);
        x.set(9, 0, 0);
        x.copy(0, 0, 8, 0, 0);
        x.drop(8);
        x.fits(6, 0, 0, 1, 0);
        x.as(0, 6);
        x.count(0);
        x.steps(0);
        Due.is("status() behind BAD", x.status(), 4);
        x.set(0, 0, 0);
        Due.is("status() of NULL", x.status(), 1);
        x.row(0, 0, 2);
        Due.is("status() of a row", x.status(), 0);
        x.set(0, 2, 0);
        Due.is("status() of PLACE", x.status(), 2);
        x.set(0, 1, 0);
        Due.is("status() of a set", x.status(), 0);
        x.row(1, 1, 2);
        x.copy(0, 0, 1, 0, 1);
        Due.is("status() of STORE", x.status(), 5);
        x.copy(0, 0, 0, 0, 1);
        Due.is("status() of a copy", x.status(), 0);
        x.as(0, 4);
        Due.is("status() of KIND", x.status(), 3);
        x.as(0, 1);
        Due.is("status() of as", x.status(), 0);
        x.fits(0, 2, 0, 1, 0);
        Due.is("status() of fits", x.status(), 1);
        x.fits(0, 0, 0, 1, 0);
        Due.is("status() of fits that fits", x.status(), 0);
        x.drop(5);
        Due.is("status() of a drop", x.status(), 1);
        x.drop(1);
        Due.is("status() of a good drop", x.status(), 0);
    }
}
