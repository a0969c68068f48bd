import java.util.function.ToIntFunction;

/** Boundary cases of "Terms" that bind many calls: which refusal is first, what stays as it is. */
final class EdgesOfTerms {
    private static final int NONE = LiftEnvy.NONE, BAD = LiftEnvy.BAD, STATE = LiftEnvy.STATE;
    private static final int FULL = LiftEnvy.FULL;
    private static final int NULL = -1000011, PLACE = -1000012, KIND = -1000013, SIZE = -1000014,
        STORE = -1000015;
    private static final String FIRST = "Refusals are answers, the first of these that fits";
    private static final String STAYS = "What is refused, or found, changes nothing but status().";

    private EdgesOfTerms() {
    }

    /** Something of everything: rows, acts, a rider, an image, a trace, a fault, a tape. */
    private static LiftEnvy lived() {
        LiftEnvy x = Due.housed(Due.SIX);
        x.image(0);
        x.show(0, 6);
        x.walk(1, 1);
        x.steps(7);
        x.row(0, 0, 20);
        x.row(1, 1, 9);
        x.row(2, 2, 0);
        for (int i = 0; i < 6; i++) {
            x.set(0, i, x.ahead(i + 1, 0));
        }
        x.copy(0, 0, 0, 7, 6);
        x.ask(1, 0);
        x.feed('f');
        x.house();
        x.feed('f');
        x.feed('3');
        x.feed(',');
        x.feed('1');
        return x;
    }

    /** The object is asked once, its twin is not: nothing else may tell them apart. */
    private static void isSame(String call, ToIntFunction<LiftEnvy> asked, int due, int status) {
        LiftEnvy x = lived();
        LiftEnvy twin = lived();
        Due.is(call, asked.applyAsInt(x), due);
        Due.is("status() behind " + call, x.status(), status);
        if (!Looks.at(x).equals(Looks.at(twin))) {
            Due.fail(call + " changed something");
        }
    }

    private static void isSame(String call, ToIntFunction<LiftEnvy> asked, int due) {
        isSame(call, asked, due, 0);
    }

    // ---- the numbers of refusals

    @Says(promise = 0, text = "public static final int NONE = -1000000, BAD = -1000001, STATE = -1000002, FULL = -1000003;")
    static void numbersOfRefusals() {
        Due.is("NONE", NONE, -1000000);
        Due.is("BAD", BAD, -1000001);
        Due.is("STATE", STATE, -1000002);
        Due.is("FULL", FULL, -1000003);
        LiftEnvy x = new LiftEnvy();
        Due.is("trace(0)", x.trace(0), -1000000);
        Due.is("count(7)", x.count(7), -1000001);
        Due.is("undo()", x.undo(), -1000002);
        for (int k = 0; k < 120; k++) {
            x.feed(0);
        }
        Due.is("feed(0)", x.feed(0), -1000003);
    }

    @Says(promise = 0, text = "-1000010 less 1 NULL (a ROW that is missing), 2 PLACE (no such place of a ROW), 3 KIND (a PERSON that is not that), 4 SIZE (fewer than none), 5 STORE (ROWS of two LANES)")
    static void numbersOfFindings() {
        LiftEnvy x = lived();
        Due.is("drop(7)", x.drop(7), -1000010 - 1);
        Due.is("set(0, 20, 0)", x.set(0, 20, 0), -1000010 - 2);
        Due.is("as(0, 4)", x.as(0, 4), -1000010 - 3);
        Due.is("row(0, 0, -1)", x.row(0, 0, -1), -1000010 - 4);
        Due.is("copy(0, 0, 1, 0, 0)", x.copy(0, 0, 1, 0, 0), -1000010 - 5);
    }

    // ---- which of several refusals is the answer

    @Says(promise = 2, text = FIRST)
    static void firstOfRow() {
        LiftEnvy x = lived();
        Due.is("row(8, 0, -1)", x.row(8, 0, -1), BAD);
        Due.is("row(0, 3, -1)", x.row(0, 3, -1), BAD);
        Due.is("row(0, -1, -1)", x.row(0, -1, -1), BAD);
    }

    @Says(promise = 3, text = FIRST)
    static void firstOfSet() {
        LiftEnvy x = lived();
        Due.is("set(8, -1, 0)", x.set(8, -1, 0), BAD);
        Due.is("set(7, -1, 0)", x.set(7, -1, 0), NULL);
    }

    @Says(promise = 4, text = FIRST)
    static void firstOfCopy() {
        LiftEnvy x = lived();
        Due.is("BAD ahead of NULL", x.copy(7, 0, 8, 0, 0), BAD);
        Due.is("BAD ahead of NULL, the other way", x.copy(-1, 0, 7, 0, 0), BAD);
        Due.is("NULL ahead of PLACE", x.copy(7, -1, 0, 0, 1), NULL);
        Due.is("NULL ahead of PLACE, the other way", x.copy(0, -1, 7, 0, 1), NULL);
        Due.is("STORE ahead of PLACE", x.copy(0, -1, 1, -1, -1), STORE);
        Due.is("STORE ahead of PLACE beyond an end", x.copy(0, 0, 1, 0, 10), STORE);
        Due.is("PLACE", x.copy(0, -1, 0, -1, -1), PLACE);
    }

    @Says(promise = 5, text = FIRST)
    static void firstOfDrop() {
        Due.is("drop(8)", new LiftEnvy().drop(8), BAD);
    }

    @Says(promise = 6, text = FIRST)
    static void firstOfFeed() {
        LiftEnvy x = new LiftEnvy();
        for (int k = 0; k < 120; k++) {
            x.feed(0);
        }
        Due.each("feed(v)", x::feed, BAD, -1, 256);
        Due.each("feed(v)", x::feed, FULL, 0, 255);
    }

    @Says(promise = 9, text = FIRST)
    static void firstOfSteps() {
        LiftEnvy x = Due.atStep(Due.TWO, 999);
        Due.each("steps(v)", x::steps, BAD, 0, 25, Integer.MAX_VALUE);
        Due.each("steps(v)", x::steps, FULL, 1, 24);
    }

    @Says(promise = 11, text = FIRST)
    static void firstOfWalk() {
        LiftEnvy x = Due.atStep(Due.TWO, 2);
        Due.each("walk(1, v)", v -> x.walk(1, v), BAD, -1, 2);
        Due.each("walk(1, v)", v -> x.walk(1, v), STATE, 0, 1);
    }

    @Says(promise = 20, text = FIRST)
    static void firstOfLeast() {
        LiftEnvy x = Due.atStep(Due.TWO, 4);
        Due.each("least(1, v)", v -> x.least(1, v), BAD, -1, 61);
        Due.each("least(1, v)", v -> x.least(1, v), STATE, 0, 60);
    }

    @Says(promise = 22, text = FIRST)
    static void firstOfBeside() {
        LiftEnvy x = Due.atStep(Due.TWO, 4);
        Due.each("beside(1, v)", v -> x.beside(1, v), BAD, -1, 2);
        Due.each("beside(1, v)", v -> x.beside(1, v), STATE, 0, 1);
    }

    @Says(promise = 23, text = FIRST)
    static void firstOfFits() {
        LiftEnvy x = lived();
        Due.is("PERSON ahead of NULL", x.fits(6, 7, 0, 1, 0), BAD);
        Due.is("n ahead of NULL", x.fits(0, 7, 0, 17, 0), BAD);
        Due.is("what ahead of NULL", x.fits(0, 7, 0, 1, 3), BAD);
        Due.is("n ahead of PLACE", x.fits(0, 0, -1, 0, 0), BAD);
        Due.is("NULL ahead of PLACE", x.fits(0, 7, -1, 1, 0), NULL);
        Due.is("PLACE", x.fits(0, 2, 0, 1, 0), PLACE);
    }

    @Says(promise = 26, text = FIRST)
    static void firstOfImage() {
        Due.each("image(v)", new LiftEnvy()::image, BAD, -1, 2);
        Due.each("image(v)", new LiftEnvy()::image, STATE, 0, 1);
    }

    @Says(promise = 27, text = FIRST)
    static void firstOfRestore() {
        Due.each("restore(v)", new LiftEnvy()::restore, BAD, -1, 2);
        Due.each("restore(v)", new LiftEnvy()::restore, STATE, 0, 1);
    }

    @Says(promise = 29, text = FIRST)
    static void firstOfAs() {
        LiftEnvy x = lived();
        Due.is("as(6, 5)", x.as(6, 5), BAD);
        Due.is("as(0, 6)", x.as(0, 6), BAD);
        Due.is("as(0, 5)", x.as(0, 5), KIND);
    }

    // ---- what is refused changes nothing

    @Says(promise = 2, text = STAYS)
    static void refusedRow() {
        isSame("row(-1, 0, 1)", x -> x.row(-1, 0, 1), BAD);
        isSame("row(8, 0, 1)", x -> x.row(8, 0, 1), BAD);
        isSame("row(0, 3, 1)", x -> x.row(0, 3, 1), BAD);
        isSame("row(0, 0, 41)", x -> x.row(0, 0, 41), BAD);
        isSame("row(0, 1, -1)", x -> x.row(0, 1, -1), SIZE, 4);
        isSame("row(5, 1, -1)", x -> x.row(5, 1, -1), SIZE, 4);
    }

    @Says(promise = 3, text = STAYS)
    static void refusedSet() {
        isSame("set(8, 0, 5)", x -> x.set(8, 0, 5), BAD);
        isSame("set(5, 0, 5)", x -> x.set(5, 0, 5), NULL, 1);
        isSame("set(0, 20, 5)", x -> x.set(0, 20, 5), PLACE, 2);
        isSame("set(0, -1, 5)", x -> x.set(0, -1, 5), PLACE, 2);
        isSame("set(2, 0, 5)", x -> x.set(2, 0, 5), PLACE, 2);
    }

    @Says(promise = 4, text = STAYS)
    static void refusedCopy() {
        isSame("copy(0, 0, 8, 0, 1)", x -> x.copy(0, 0, 8, 0, 1), BAD);
        isSame("copy(0, 0, 5, 0, 1)", x -> x.copy(0, 0, 5, 0, 1), NULL, 1);
        isSame("copy(5, 0, 0, 0, 1)", x -> x.copy(5, 0, 0, 0, 1), NULL, 1);
        isSame("copy(1, 0, 0, 0, 6)", x -> x.copy(1, 0, 0, 0, 6), STORE, 5);
        isSame("copy(0, 8, 0, 0, 13)", x -> x.copy(0, 8, 0, 0, 13), PLACE, 2);
        isSame("copy(0, 6, 0, -1, 6)", x -> x.copy(0, 6, 0, -1, 6), PLACE, 2);
    }

    @Says(promise = 5, text = STAYS)
    static void refusedDrop() {
        isSame("drop(8)", x -> x.drop(8), BAD);
        isSame("drop(5)", x -> x.drop(5), NULL, 1);
    }

    @Says(promise = 6, text = STAYS)
    static void refusedFeed() {
        isSame("feed(-1)", x -> x.feed(-1), BAD);
        isSame("feed(256)", x -> x.feed(256), BAD);
    }

    @Says(promise = 9, text = STAYS)
    static void refusedSteps() {
        isSame("steps(0)", x -> x.steps(0), BAD);
        isSame("steps(25)", x -> x.steps(25), BAD);
    }

    @Says(promise = 10, text = STAYS)
    static void refusedShow() {
        isSame("show(6, 1)", x -> x.show(6, 1), BAD);
        isSame("show(-1, 1)", x -> x.show(-1, 1), BAD);
        isSame("show(0, 10)", x -> x.show(0, 10), BAD);
        isSame("show(0, -1)", x -> x.show(0, -1), BAD);
    }

    @Says(promise = 11, text = STAYS)
    static void refusedWalk() {
        isSame("walk(6, 1)", x -> x.walk(6, 1), BAD);
        isSame("walk(0, 2)", x -> x.walk(0, 2), BAD);
        isSame("walk(4, 0) of who rides", x -> x.walk(4, 0), STATE);
    }

    @Says(promise = 12, text = STAYS)
    static void refusedUndo() {
        LiftEnvy x = lived();
        LiftEnvy twin = lived();
        x.restore(0);
        twin.restore(0);
        Due.is("undo()", x.undo(), STATE);
        if (!Looks.at(x).equals(Looks.at(twin))) {
            Due.fail("undo() changed something");
        }
    }

    @Says(promise = 13, text = STAYS)
    static void refusedLooks() {
        isSame("person(6, 0)", x -> x.person(6, 0), BAD);
        isSame("person(0, 6)", x -> x.person(0, 6), BAD);
        isSame("minds(0, 0)", x -> x.minds(0, 0), BAD);
        isSame("car(4)", x -> x.car(4), BAD);
        isSame("kind(6)", x -> x.kind(6), BAD);
        isSame("count(7)", x -> x.count(7), BAD);
        isSame("trace(6)", x -> x.trace(6), NONE);
    }

    @Says(promise = 16, text = STAYS)
    static void refusedForetelling() {
        isSame("ahead(61, 0)", x -> x.ahead(61, 0), BAD);
        isSame("when(6)", x -> x.when(6), BAD);
        isSame("first(2)", x -> x.first(2), BAD);
        isSame("least(0, 61)", x -> x.least(0, 61), BAD);
        isSame("hide(2)", x -> x.hide(2), BAD);
        isSame("beside(0, 2)", x -> x.beside(0, 2), BAD);
        isSame("beside(4, 0) of who rides", x -> x.beside(4, 0), STATE);
        isSame("hidden(0, 0, 11, 0)", x -> x.hidden(0, 0, 11, 0), BAD);
        isSame("drawn(0, 0, 0)", x -> x.drawn(0, 0, 0), BAD);
    }

    @Says(promise = 23, text = STAYS)
    static void refusedFits() {
        isSame("fits(0, 0, 0, 17, 0)", x -> x.fits(0, 0, 0, 17, 0), BAD);
        isSame("fits(0, 5, 0, 1, 0)", x -> x.fits(0, 5, 0, 1, 0), NULL, 1);
        isSame("fits(0, 0, 20, 1, 0)", x -> x.fits(0, 0, 20, 1, 0), PLACE, 2);
    }

    @Says(promise = 27, text = STAYS)
    static void refusedImages() {
        isSame("image(2)", x -> x.image(2), BAD);
        isSame("image(-1)", x -> x.image(-1), BAD);
        isSame("restore(2)", x -> x.restore(2), BAD);
        isSame("restore(1)", x -> x.restore(1), STATE);
    }

    @Says(promise = 30, text = STAYS)
    static void refusedAsks() {
        isSame("ask(6, 0)", x -> x.ask(6, 0), BAD);
        isSame("ask(0, 2)", x -> x.ask(0, 2), BAD);
        isSame("as(0, 6)", x -> x.as(0, 6), BAD);
        isSame("as(0, 5)", x -> x.as(0, 5), KIND, 3);
    }

    // ---- what is foretold changes nothing

    @Says(promise = 16, text = "FORETOLD (nothing changes), d STEPS from now (0 to 60).")
    static void foretellingLeavesAll() {
        LiftEnvy seen = lived();
        isSame("ahead(60, 2)", x -> x.ahead(60, 2), seen.ahead(60, 2));
        isSame("when(0)", x -> x.when(0), seen.when(0));
        isSame("first(1)", x -> x.first(1), seen.first(1));
        isSame("never()", LiftEnvy::never, seen.never());
        isSame("least(0, 60)", x -> x.least(0, 60), seen.least(0, 60));
        isSame("hide(1)", x -> x.hide(1), seen.hide(1));
        isSame("beside(1, 0)", x -> x.beside(1, 0), seen.beside(1, 0));
        isSame("fits(0, 0, 0, 6, 0)", x -> x.fits(0, 0, 0, 6, 0), seen.fits(0, 0, 0, 6, 0));
        isSame("hidden(0, 60, 3, 0)", x -> x.hidden(0, 60, 3, 0), seen.hidden(0, 60, 3, 0));
        isSame("drawn(60, 7, 1)", x -> x.drawn(60, 7, 1), seen.drawn(60, 7, 1));
    }

    // ---- sets and fractions

    @Says(promise = 0, text = "Sets are bits.")
    static void setOfTheLastOne() {
        LiftEnvy x = Due.housed("f1,0;" + "c1,1,0,0;".repeat(5) + "c1,0,9,0;");
        x.steps(4);
        Due.is("car(3)", x.car(3), 32);
        Due.is("never()", x.never(), 31);
    }

    @Says(promise = 0, text = "fractions, told as two numbers in lowest terms (0 is 0 by 1)")
    static void fractionsOf0AndOf1() {
        LiftEnvy x = Due.housed(Due.TWO);
        Due.is("hidden(1, 4, 10, 0)", x.hidden(1, 4, 10, 0), 0);
        Due.is("hidden(1, 4, 10, 1)", x.hidden(1, 4, 10, 1), 1);
        Due.is("hidden(1, 4, 0, 0)", x.hidden(1, 4, 0, 0), 1);
        Due.is("hidden(1, 4, 0, 1)", x.hidden(1, 4, 0, 1), 1);
    }
}
