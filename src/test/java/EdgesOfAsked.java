/** Boundary cases of part 4, ASKS, and of the promises 26 to 33. */
final class EdgesOfAsked {
    private static final int NONE = LiftEnvy.NONE, BAD = LiftEnvy.BAD, STATE = LiftEnvy.STATE;
    private static final int KIND = -1000013;
    private static final int LOW = Integer.MIN_VALUE, HIGH = Integer.MAX_VALUE;
    /** One of each KIND, in order, each alone on a floor, and a chief. */
    private static final String ALL = "f9,0;c1,2,3,0;v2,3,4,0;m3,4,5,1;h4,5,6,7;e5,6,7,8;h6,9,9,0;";

    private EdgesOfAsked() {
    }

    // ---- promise 26

    @Says(promise = 26, text = "An IMAGE (0, 1) is kept of the HOUSE: 1.")
    static void bothImages() {
        LiftEnvy x = Due.housed(Due.TWO);
        Due.is("image(0)", x.image(0), 1);
        x.steps(2);
        Due.is("image(1)", x.image(1), 1);
        x.steps(2);
        x.restore(0);
        Due.is("count(2) of image 0", x.count(2), 0);
        x.restore(1);
        Due.is("count(2) of image 1", x.count(2), 2);
    }

    @Says(promise = 26, text = "An IMAGE (0, 1) is kept of the HOUSE: 1.")
    static void noSuchImageToKeep() {
        LiftEnvy x = Due.housed(Due.TWO);
        Due.tooSmall("image(v)", x::image, 0);
        Due.tooLarge("image(v)", x::image, 1);
        Due.each("restore(v)", x::restore, STATE, 0, 1);
    }

    @Says(promise = 26, text = "BAD; STATE: no HOUSE.")
    static void imageOfNoHouse() {
        LiftEnvy x = new LiftEnvy();
        Due.each("image(v)", x::image, STATE, 0, 1);
        Due.each("image(v)", x::image, BAD, -1, 2, LOW, HIGH);
        Due.told(x, Due.TWO);
        Due.each("restore(v): none was kept", x::restore, STATE, 0, 1);
    }

    @Says(promise = 26, text = "An IMAGE (0, 1) is kept of the HOUSE: 1.")
    static void imageInPlaceOfAnother() {
        LiftEnvy x = Due.housed(Due.TWO);
        x.image(0);
        x.steps(3);
        Due.is("image(0) again", x.image(0), 1);
        x.steps(3);
        x.restore(0);
        Due.is("count(2)", x.count(2), 3);
        Due.is("car(1)", x.car(1), 1);
    }

    @Says(promise = 26, text = "An IMAGE (0, 1) is kept of the HOUSE: 1.")
    static void imageLeavesTheActs() {
        LiftEnvy x = Due.atStep(Due.TWO, 3);
        x.image(0);
        Due.is("count(5)", x.count(5), 3);
        Due.is("undo()", x.undo(), 2);
        x.restore(0);
        Due.is("count(2): an undo leaves the image", x.count(2), 3);
    }

    @Says(promise = 26, text = "An IMAGE (0, 1) is kept of the HOUSE: 1.")
    static void imageOfAnEmptyHouse() {
        LiftEnvy x = Due.housed("f2,1;");
        Due.is("image(1)", x.image(1), 1);
        Due.told(x, Due.SIX);
        x.restore(1);
        Due.is("count(1)", x.count(1), 0);
        Due.is("count(3)", x.count(3), 2);
        Due.is("car(0)", x.car(0), 1);
    }

    // ---- promise 27

    @Says(promise = 27, text = "STATE: none was kept.")
    static void noImageWasKept() {
        LiftEnvy x = new LiftEnvy();
        Due.each("restore(v) without a house", x::restore, STATE, 0, 1);
        Due.told(x, Due.TWO);
        Due.each("restore(v)", x::restore, STATE, 0, 1);
        x.image(1);
        Due.is("restore(0): only 1 was kept", x.restore(0), STATE);
        Due.is("restore(1)", x.restore(1), 1);
    }

    @Says(promise = 27, text = "The HOUSE is as an IMAGE kept it (no ACT can be undone then): 1. BAD;")
    static void noSuchImageToRestore() {
        LiftEnvy x = Due.housed(Due.TWO);
        x.image(0);
        x.image(1);
        Due.tooSmall("restore(v)", x::restore, 0);
        Due.tooLarge("restore(v)", x::restore, 1);
    }

    @Says(promise = 27, text = "no ACT can be undone then")
    static void noActBehindARestore() {
        LiftEnvy x = Due.housed(Due.TWO);
        x.image(0);
        x.steps(24);
        Due.is("restore(0)", x.restore(0), 1);
        Due.is("count(5)", x.count(5), 0);
        Due.is("undo()", x.undo(), STATE);
        x.steps(1);
        Due.is("undo() of an ACT since", x.undo(), 0);
        Due.is("count(2)", x.count(2), 0);
    }

    @Says(promise = 27, text = "STATE: none was kept.")
    static void refusedRestoreLeavesTheActs() {
        LiftEnvy x = Due.atStep(Due.TWO, 4);
        x.restore(0);
        x.restore(2);
        Due.is("count(5)", x.count(5), 4);
        Due.is("count(2)", x.count(2), 4);
        Due.is("undo()", x.undo(), 3);
    }

    @Says(promise = 27, text = "The HOUSE is as an IMAGE kept it")
    static void restoreAgainAndAgain() {
        LiftEnvy x = Due.atStep(Due.TWO, 3);
        x.image(0);
        for (int k = 0; k < 3; k++) {
            x.steps(2);
            x.show(0, 8);
            x.walk(0, 1);
            Due.is("restore(0)", x.restore(0), 1);
            Due.is("count(2)", x.count(2), 3);
            Due.is("car(1)", x.car(1), 1);
            Due.is("car(3)", x.car(3), 0);
            Due.is("person(0, 0)", x.person(0, 0), 1);
            Due.is("person(0, 2)", x.person(0, 2), 0);
        }
    }

    @Says(promise = 27, text = "The HOUSE is as an IMAGE kept it")
    static void restoreFromTheLastStep() {
        LiftEnvy x = Due.housed(Due.TWO);
        x.image(0);
        for (int k = 0; k < 41; k++) {
            x.steps(24);
        }
        x.steps(15);
        Due.is("steps(1)", x.steps(1), LiftEnvy.FULL);
        x.restore(0);
        Due.is("steps(1) then", x.steps(1), 1);
        Due.is("count(2) then", x.count(2), 1);
    }

    @Says(promise = 27, text = "The HOUSE is as an IMAGE kept it")
    static void restoreWhatIsNoPartOfTheHouse() {
        LiftEnvy x = Due.housed(Due.TWO);
        x.image(0);
        x.row(3, 0, 4);
        x.feed('f');
        x.ask(0, 1);
        x.restore(0);
        Due.is("count(0)", x.count(0), 1);
        Due.is("count(6)", x.count(6), 1);
        Due.is("trace(0)", x.trace(0), 21);
    }

    // ---- promise 28

    @Says(promise = 28, text = "The KIND of a PERSON, as told (1 to 5). BAD.")
    static void eachKind() {
        LiftEnvy x = Due.housed(ALL);
        int[] kinds = {1, 2, 3, 4, 5, 4};
        for (int p = 0; p < kinds.length; p++) {
            Due.is("kind(" + p + ")", x.kind(p), kinds[p]);
        }
    }

    @Says(promise = 28, text = "The KIND of a PERSON, as told (1 to 5). BAD.")
    static void kindOfNobody() {
        LiftEnvy x = Due.housed(Due.TWO);
        Due.tooSmall("kind(v)", x::kind, 0);
        Due.tooLarge("kind(v)", x::kind, 1);
        Due.tooLarge("kind(v)", Due.housed(ALL)::kind, 5);
        Due.is("kind(0)", new LiftEnvy().kind(0), BAD);
    }

    // ---- promise 29

    @Says(promise = 29, text = "KIND: it is no such one.")
    static void eachAsEachKind() {
        int[] isOne = {0b000011, 0b000111, 0b001011, 0b010001, 0b110001, 0b010001};
        LiftEnvy x = Due.housed(ALL);
        for (int p = 0; p < isOne.length; p++) {
            for (int kind = 0; kind <= 5; kind++) {
                Due.is("as(" + p + ", " + kind + ")", x.as(p, kind),
                    (isOne[p] >> kind & 1) != 0 ? p : KIND);
            }
        }
    }

    @Says(promise = 29, text = "A PERSON is taken as one of a KIND (0 .. 5): its number.")
    static void asNoKind() {
        LiftEnvy x = Due.housed(ALL);
        Due.tooSmall("as(4, v)", v -> x.as(4, v), 0);
        Due.tooLarge("as(4, v)", v -> x.as(4, v), 5);
    }

    @Says(promise = 29, text = "A PERSON is taken as one of a KIND (0 .. 5): its number.")
    static void nobodyAsAKind() {
        LiftEnvy x = Due.housed(Due.TWO);
        Due.tooSmall("as(v, 0)", v -> x.as(v, 0), 0);
        Due.tooLarge("as(v, 0)", v -> x.as(v, 0), 1);
    }

    // ---- promise 30

    @Says(promise = 30, text = "An ASK (0, 1) of a PERSON. BAD.")
    static void noSuchAsk() {
        LiftEnvy x = Due.housed(ALL);
        Due.tooSmall("ask(0, v)", v -> x.ask(0, v), 0);
        Due.tooLarge("ask(0, v)", v -> x.ask(0, v), 1);
    }

    @Says(promise = 30, text = "An ASK (0, 1) of a PERSON. BAD.")
    static void askOfNobody() {
        LiftEnvy x = Due.housed(Due.TWO);
        Due.tooSmall("ask(v, 0)", v -> x.ask(v, 0), 0);
        Due.tooLarge("ask(v, 0)", v -> x.ask(v, 0), 1);
    }

    @Says(promise = 30, text = "THE TRACE is empty ahead of it.")
    static void shorterTraceBehindALongerOne() {
        LiftEnvy x = Due.housed(ALL);
        x.ask(1, 0);
        Due.is("trace(5)", x.trace(5), 20);
        x.ask(3, 0);
        Due.is("trace(0)", x.trace(0), 13);
        Due.is("trace(1)", x.trace(1), 10);
        Due.each("trace(v)", x::trace, NONE, 2, 3, 4, 5);
    }

    @Says(promise = 30, text = "THE TRACE is empty ahead of it.")
    static void refusedAskLeavesTheTrace() {
        LiftEnvy x = Due.housed(ALL);
        x.ask(4, 0);
        x.ask(6, 0);
        x.ask(0, 2);
        int[] left = {14, 13, 10, NONE};
        for (int i = 0; i < left.length; i++) {
            Due.is("trace(" + i + ")", x.trace(i), left[i]);
        }
    }

    private static void isAsk(LiftEnvy x, int p, int what, int answer, int... bodies) {
        String call = "ask(" + p + ", " + what + ")";
        Due.is(call, x.ask(p, what), answer);
        for (int i = 0; i < bodies.length; i++) {
            Due.is("trace(" + i + ") of " + call, x.trace(i), bodies[i]);
        }
        Due.is("the end of the trace of " + call, x.trace(bodies.length), NONE);
    }

    @Says(promise = 30, text = "Of an ask the BODY told for the KIND begins, else that of the nearest KIND that it is, too, else the one that is lent")
    static void sizeOfEachKind() {
        LiftEnvy x = Due.housed(ALL);
        isAsk(x, 0, 0, 2, 11, 10, 21, 20);
        isAsk(x, 1, 0, -(3 + 2 * 1), 12, 11, 10, 24, 21, 20);
        isAsk(x, 2, 0, 4 + 2 - 1000, 11, 10, 22, 21, 20);
        isAsk(x, 3, 0, 5 - 100, 13, 10);
        isAsk(x, 4, 0, 2 * (6 - 100), 14, 13, 10);
    }

    @Says(promise = 30, text = "Of an ask the BODY told for the KIND begins, else that of the nearest KIND that it is, too, else the one that is lent")
    static void markOfEachKind() {
        LiftEnvy x = Due.housed(ALL);
        isAsk(x, 0, 1, 0, 21, 20);
        isAsk(x, 1, 1, 2, 24, 21, 20);
        isAsk(x, 2, 1, 2 - 1000, 22, 21, 20);
        isAsk(x, 3, 1, 3 - (5 - 100), 23, 20, 13, 10);
        isAsk(x, 4, 1, 4 - 2 * (6 - 100), 23, 20, 14, 13, 10);
    }

    @Says(promise = 30, text = "21 of CLERKS: what 20 gives, and ENVY.")
    static void markOfWhoIsMindedAndOfWhoRides() {
        LiftEnvy x = Due.atStep(Due.TWO, 1);
        Due.is("ask(1, 1)", x.ask(1, 1), 1 + 5);
        x.steps(1);
        Due.is("ask(1, 1) of who rides", x.ask(1, 1), 1);
    }

    // ---- promise 31

    @Says(promise = 31, text = "Number i of THE TRACE; NONE.")
    static void traceAheadOfAnyAsk() {
        Due.each("trace(v)", new LiftEnvy()::trace, NONE, 0, 1, 15, 16, -1, LOW, HIGH);
        Due.each("trace(v)", Due.housed(ALL)::trace, NONE, 0, 15);
    }

    @Says(promise = 31, text = "Number i of THE TRACE; NONE.")
    static void traceBelowTheFirst() {
        LiftEnvy x = Due.housed(ALL);
        x.ask(1, 0);
        Due.each("trace(v)", x::trace, NONE, -1, -16, LOW, LOW + 1);
        Due.is("trace(0)", x.trace(0), 12);
    }

    @Says(promise = 31, text = "Number i of THE TRACE; NONE.")
    static void traceBeyondTheLast() {
        LiftEnvy x = Due.housed(ALL);
        x.ask(1, 0);
        Due.is("trace(5)", x.trace(5), 20);
        Due.each("trace(v)", x::trace, NONE, 6, 7, 15, 16, 17, HIGH - 1, HIGH);
    }

    @Says(promise = 31, text = "each of which leaves its number in THE TRACE as it begins (the first 16)")
    static void longestTrace() {
        // no ask begins more than six BODIES, so that all of them are among the first 16
        LiftEnvy x = Due.housed(ALL);
        isAsk(x, 1, 0, -5, 12, 11, 10, 24, 21, 20);
    }

    // ---- promise 32

    @Says(promise = 32, text = "0 ROWS, 1 PEOPLE, 2 the STEP, 3 TOP, 4 who are BROUGHT, 5 ACTS that can be undone, 6 bytes on the tape.")
    static void countsOfNone() {
        LiftEnvy x = new LiftEnvy();
        Due.each("count(v)", x::count, 0, 0, 1, 2, 3, 4, 5, 6);
    }

    @Says(promise = 32, text = "0 ROWS, 1 PEOPLE, 2 the STEP, 3 TOP, 4 who are BROUGHT, 5 ACTS that can be undone, 6 bytes on the tape.")
    static void largestCounts() {
        LiftEnvy x = Due.atStep("f9,0;" + "e0,0,0,0;".repeat(6), 999);
        for (int r = 0; r <= 7; r++) {
            x.row(r, 0, 0);
        }
        for (int k = 0; k < 121; k++) {
            x.feed(0);
        }
        int[] largest = {8, 6, 999, 9, 6, 24, 120};
        for (int what = 0; what < largest.length; what++) {
            Due.is("count(" + what + ")", x.count(what), largest[what]);
        }
    }

    @Says(promise = 32, text = "6 bytes on the tape. BAD.")
    static void countOfNoSuchThing() {
        LiftEnvy x = new LiftEnvy();
        Due.tooSmall("count(v)", x::count, 0);
        Due.tooLarge("count(v)", x::count, 6);
        LiftEnvy housed = Due.housed(Due.TWO);
        Due.each("count(v)", housed::count, BAD, -1, 7);
    }

    // ---- promise 33

    @Says(promise = 33, text = "the number of its FINDING; 0: it had none, or there was none.")
    static void statusAtFirst() {
        Due.is("status()", new LiftEnvy().status(), 0);
        Due.is("status() in a house", Due.housed(Due.TWO).status(), 0);
    }

    @Says(promise = 33, text = "Of the latest call with a ROW, or as()")
    static void statusOfEachFinding() {
        LiftEnvy x = Due.housed(Due.TWO);
        x.set(0, 0, 0);
        Due.is("status() of NULL", x.status(), 1);
        x.row(0, 0, 2);
        Due.is("status() of row", x.status(), 0);
        x.set(0, 2, 0);
        Due.is("status() of PLACE", x.status(), 2);
        x.set(0, 1, 0);
        Due.is("status() of set", x.status(), 0);
        x.as(0, 5);
        Due.is("status() of KIND", x.status(), 3);
        x.as(0, 1);
        Due.is("status() of as", x.status(), 0);
        x.row(0, 0, -1);
        Due.is("status() of SIZE", x.status(), 4);
        x.copy(0, 0, 0, 1, 1);
        Due.is("status() of copy", x.status(), 0);
        x.row(1, 1, 2);
        x.copy(0, 0, 1, 0, 1);
        Due.is("status() of STORE", x.status(), 5);
        x.drop(1);
        Due.is("status() of drop", x.status(), 0);
        x.drop(1);
        Due.is("status() of drop, NULL", x.status(), 1);
        x.fits(0, 0, 0, 2, 0);
        Due.is("status() of fits", x.status(), 0);
        x.fits(0, 0, 1, 2, 0);
        Due.is("status() of fits, PLACE", x.status(), 2);
        x.fits(0, 1, 0, 2, 0);
        Due.is("status() of fits, NULL", x.status(), 1);
        Due.is("status() again", x.status(), 1);
    }

    @Says(promise = 33, text = "that was not BAD, STATE, FULL")
    static void statusBehindWhatIsBad() {
        LiftEnvy x = Due.housed(Due.TWO);
        x.row(0, 0, -1);
        x.row(8, 0, 1);
        x.row(0, 3, 1);
        x.row(0, 0, 41);
        x.set(8, 0, 0);
        x.copy(0, 0, 8, 0, 0);
        x.copy(-1, 0, 0, 0, 0);
        x.drop(8);
        x.fits(2, 0, 0, 1, 0);
        x.fits(0, 8, 0, 1, 0);
        x.fits(0, 0, 0, 17, 0);
        x.fits(0, 0, 0, 1, 3);
        x.as(2, 0);
        x.as(0, 6);
        Due.is("status()", x.status(), 4);
        x.row(0, 0, 1);
        x.drop(8);
        Due.is("status() of a good call ahead of BAD", x.status(), 0);
    }

    @Says(promise = 33, text = "Of the latest call with a ROW, or as()")
    static void statusBehindCallsWithoutARow() {
        LiftEnvy x = Due.housed(Due.TWO);
        x.row(0, 0, -1);
        int sum = x.feed('f') + x.house() + x.fault() + x.steps(1) + x.show(0, 1) + x.walk(0, 1);
        sum += x.undo() + x.person(0, 0) + x.minds(0, 1) + x.car(0) + x.ahead(1, 0) + x.when(0);
        sum += x.first(0) + x.never() + x.least(0, 1) + x.hide(0) + x.beside(0, 0) + x.kind(0);
        sum += x.hidden(0, 1, 1, 1) + x.drawn(1, 1, 1) + x.image(0) + x.restore(0) + x.ask(0, 0);
        sum += x.trace(0) + x.count(0);
        Due.is("status() behind calls that gave " + sum, x.status(), 4);
        sum += x.feed(256) + x.steps(0) + x.show(9, 9) + x.walk(9, 9) + x.undo() + x.person(9, 0);
        sum += x.restore(1) + x.image(2) + x.ask(9, 9) + x.count(7) + x.beside(9, 0) + x.ahead(61, 0);
        Due.is("status() behind refusals, with " + sum, x.status(), 4);
    }
}
