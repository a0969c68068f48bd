import java.math.BigInteger;

/** Boundary cases of part 3, FORETOLD, and of the promises 16 to 25. */
final class EdgesOfForetold {
    private static final int NONE = LiftEnvy.NONE, BAD = LiftEnvy.BAD, STATE = LiftEnvy.STATE;
    private static final int NULL = -1000011, PLACE = -1000012;
    private static final int LOW = Integer.MIN_VALUE, HIGH = Integer.MAX_VALUE;

    private EdgesOfForetold() {
    }

    /**
     * The car fetches one after the other from 9 to 0, in 20 STEPS each, the fifth to a floor as
     * told. Only the sixth, a clerk, minds anybody: the meek ones have too much TEMPER for it.
     */
    private static String queue(int fifthWants) {
        return "f9,0;m9,0,9,9;m9,0,8,9;m9,0,7,9;m9,0,6,9;m9," + fifthWants + ",1,9;c9,0,0,0;";
    }

    /** Row 0 tells where the car of the queue is behind the first STEPS, and more than those. */
    private static LiftEnvy queueWithRow(int lane, int length) {
        LiftEnvy x = Due.housed(queue(0));
        int[] cars = {1, 2, 3, 4, 5, 6, 7, 8, 9, 9, 8, 7, 6, 5, 4, 3, 2, 1, 0, 0};
        x.row(0, lane, length);
        for (int i = 0; i < length; i++) {
            x.set(0, i, cars[i]);
        }
        return x;
    }

    // ---- promise 16

    @Says(promise = 16, text = "d STEPS from now (0 to 60)")
    static void aheadOfNothing() {
        LiftEnvy x = Due.atStep(Due.TWO, 2);
        Due.is("ahead(0, 0)", x.ahead(0, 0), 1);
        Due.is("ahead(0, 1)", x.ahead(0, 1), 1);
        Due.is("ahead(0, 2)", x.ahead(0, 2), 0);
    }

    @Says(promise = 16, text = "d STEPS from now (0 to 60)")
    static void aheadAsFarAsCanBe() {
        LiftEnvy x = Due.housed(queue(0));
        Due.is("ahead(59, 1)", x.ahead(59, 1), 2);
        Due.is("ahead(60, 1)", x.ahead(60, 1), NONE);
        Due.is("ahead(59, 2)", x.ahead(59, 2), 3);
        Due.is("ahead(60, 2)", x.ahead(60, 2), 7);
        x.steps(9);
        Due.is("ahead(60, 0)", x.ahead(60, 0), 9);
        Due.is("ahead(59, 0)", x.ahead(59, 0), 8);
    }

    @Says(promise = 16, text = "d STEPS from now (0 to 60)")
    static void aheadTooFar() {
        LiftEnvy x = Due.housed(Due.TWO);
        Due.tooSmall("ahead(v, 0)", v -> x.ahead(v, 0), 0);
        Due.tooLarge("ahead(v, 0)", v -> x.ahead(v, 0), 60);
    }

    @Says(promise = 16, text = "where (what = 0), who rides (1; NONE), who is BROUGHT (2).")
    static void aheadOfNoSuchThing() {
        LiftEnvy x = Due.housed(Due.TWO);
        Due.tooSmall("ahead(0, v)", v -> x.ahead(0, v), 0);
        Due.tooLarge("ahead(0, v)", v -> x.ahead(0, v), 2);
    }

    @Says(promise = 16, text = "who rides (1; NONE)")
    static void aheadNobodyRides() {
        LiftEnvy x = Due.housed(Due.TWO);
        int[] riders = {NONE, NONE, 1, 1, NONE, NONE};
        for (int d = 0; d < riders.length; d++) {
            Due.is("ahead(" + d + ", 1)", x.ahead(d, 1), riders[d]);
        }
    }

    @Says(promise = 16, text = "STATE: no HOUSE (ahead of BAD).")
    static void aheadWithoutAHouse() {
        LiftEnvy x = new LiftEnvy();
        Due.each("ahead(v, 0)", v -> x.ahead(v, 0), STATE, 0, 60, -1, 61, LOW, HIGH);
        Due.each("ahead(0, v)", v -> x.ahead(0, v), STATE, 0, 2, -1, 3, LOW, HIGH);
    }

    @Says(promise = 16, text = "FORETOLD (nothing changes), d STEPS from now")
    static void aheadBeyondTheLastStep() {
        LiftEnvy x = Due.atStep("f3,0;c1,3,0,0;c1,0,0,0;", 999);
        x.show(1, 5);
        Due.is("ahead(60, 2)", x.ahead(60, 2), 2);
        Due.is("when(1)", x.when(1), 4);
        Due.is("count(2)", x.count(2), 999);
    }

    @Says(promise = 16, text = "CAR: where it is then; who rides; who is BROUGHT (bits).")
    static void aheadInAnEmptyHouse() {
        LiftEnvy x = Due.housed("f4,2;");
        Due.is("ahead(60, 0)", x.ahead(60, 0), 2);
        Due.is("ahead(60, 1)", x.ahead(60, 1), NONE);
        Due.is("ahead(60, 2)", x.ahead(60, 2), 0);
    }

    // ---- promise 17

    @Says(promise = 17, text = "WHEN one is BROUGHT: behind how many STEPS (0: he is; to 99); NONE.")
    static void whenHeIsBroughtAlready() {
        LiftEnvy x = Due.atStep(Due.TWO, 3);
        Due.is("when(1)", x.when(1), 1);
        x.steps(1);
        Due.is("when(1) then", x.when(1), 0);
    }

    @Says(promise = 17, text = "WHEN one is BROUGHT: behind how many STEPS (0: he is; to 99); NONE.")
    static void whenAsLateAsCanBe() {
        LiftEnvy x = Due.housed(queue(1));
        Due.is("when(3)", x.when(3), 80);
        Due.is("when(4)", x.when(4), 99);
    }

    @Says(promise = 17, text = "WHEN one is BROUGHT: behind how many STEPS (0: he is; to 99); NONE.")
    static void whenTooLate() {
        LiftEnvy x = Due.housed(queue(0));
        Due.is("when(4)", x.when(4), NONE);
        x.steps(1);
        Due.is("when(4) a STEP later", x.when(4), 99);
    }

    @Says(promise = 17, text = "WHEN; NONE. BAD.")
    static void whenNever() {
        Due.is("when(0)", Due.housed(Due.TWO).when(0), NONE);
        Due.is("when(5)", Due.housed(queue(1)).when(5), NONE);
    }

    @Says(promise = 17, text = "WHEN; NONE. BAD.")
    static void whenOfNobody() {
        LiftEnvy x = Due.housed(Due.TWO);
        Due.tooSmall("when(v)", x::when, 0);
        Due.tooLarge("when(v)", x::when, 1);
        Due.is("when(5)", Due.housed(Due.SIX).when(5), NONE);
        Due.is("when(6)", Due.housed(Due.SIX).when(6), BAD);
    }

    // ---- promise 18

    @Says(promise = 18, text = "FIRST: who is BROUGHT next; behind how many STEPS (1 to 99); NONE.")
    static void firstBehindOneStep() {
        LiftEnvy x = Due.atStep(Due.TWO, 3);
        Due.is("first(0)", x.first(0), 1);
        Due.is("first(1)", x.first(1), 1);
    }

    @Says(promise = 18, text = "FIRST: who is BROUGHT next; behind how many STEPS (1 to 99); NONE.")
    static void firstAsLateAsCanBe() {
        // nobody is on the way for longer than this: 9 FLOORS to him, and 9 with him
        LiftEnvy x = Due.housed(queue(0));
        Due.is("first(0)", x.first(0), 0);
        Due.is("first(1)", x.first(1), 20);
    }

    @Says(promise = 18, text = "FIRST: who is BROUGHT next; behind how many STEPS (1 to 99); NONE.")
    static void firstOfThoseWhoAreNotBroughtYet() {
        LiftEnvy x = Due.atStep(queue(0), 20);
        Due.is("first(0)", x.first(0), 1);
        Due.is("first(1)", x.first(1), 20);
    }

    @Says(promise = 18, text = "FIRST: who is BROUGHT next; behind how many STEPS (1 to 99); NONE.")
    static void firstOfNobody() {
        LiftEnvy x = Due.atStep(Due.TWO, 4);
        Due.each("first(v)", x::first, NONE, 0, 1);
        Due.each("first(v)", Due.housed("f4,2;")::first, NONE, 0, 1);
        Due.each("first(v)", Due.housed("f4,2;v1,1,9,9;")::first, NONE, 0, 1);
    }

    @Says(promise = 18, text = "who (what = 0), behind how many STEPS (1); NONE. BAD;")
    static void firstOfNoSuchThing() {
        LiftEnvy x = Due.housed(Due.TWO);
        Due.tooSmall("first(v)", x::first, 0);
        Due.tooLarge("first(v)", x::first, 1);
    }

    @Says(promise = 18, text = "STATE: no HOUSE (ahead of BAD).")
    static void firstWithoutAHouse() {
        LiftEnvy x = new LiftEnvy();
        Due.each("first(v)", x::first, STATE, 0, 1, -1, 2, LOW, HIGH);
    }

    // ---- promise 19

    @Says(promise = 19, text = "NEVER: PEOPLE (bits) who are not BROUGHT within 99 STEPS.")
    static void neverOfTheLastInTime() {
        Due.is("never()", Due.housed(queue(1)).never(), 32);
    }

    @Says(promise = 19, text = "NEVER: PEOPLE (bits) who are not BROUGHT within 99 STEPS.")
    static void neverOfOneTooLate() {
        LiftEnvy x = Due.housed(queue(0));
        Due.is("never()", x.never(), 48);
        x.steps(1);
        Due.is("never() a STEP later", x.never(), 32);
    }

    @Says(promise = 19, text = "NEVER: PEOPLE (bits) who are not BROUGHT within 99 STEPS.")
    static void neverOfWhoIsBrought() {
        LiftEnvy x = Due.atStep(Due.TWO, 4);
        Due.is("never()", x.never(), 1);
    }

    @Says(promise = 19, text = "NEVER: PEOPLE (bits) who are not BROUGHT within 99 STEPS.")
    static void neverOfAllAndOfNone() {
        String all = "f1,0;" + "c0,0,0,0;".repeat(6);
        Due.is("never() of all", Due.housed(all).never(), 63);
        String none = "f1,0;" + "e0,0,0,0;".repeat(6);
        Due.is("never() of none", Due.housed(none).never(), 0);
        Due.is("never() of nobody", Due.housed("f1,0;").never(), 0);
    }

    @Says(promise = 19, text = "NEVER: PEOPLE (bits) who are not BROUGHT within 99 STEPS.")
    static void neverBehindActsAndForetellings() {
        LiftEnvy x = Due.housed(Due.TWO);
        x.ahead(60, 0);
        x.show(1, 0);
        Due.is("never(), nobody shows anything", x.never(), 3);
        x.show(0, 4);
        Due.is("never(), the other one shows it", x.never(), 2);
        x.hide(0);
        Due.is("never() again", x.never(), 2);
        x.walk(0, 1);
        Due.is("never(), both are alone", x.never(), 3);
    }

    @Says(promise = 19, text = "NEVER. STATE: no HOUSE.")
    static void neverWithoutAHouse() {
        Due.is("never()", new LiftEnvy().never(), STATE);
    }

    // ---- promise 20

    @Says(promise = 20, text = "the least he is to SHOW from now on (0 to 9), so that he is BROUGHT within d STEPS; NONE.")
    static void leastIsNothing() {
        Due.is("least(1, 3)", Due.housed("f2,0;e0,1,0,0;c0,1,5,0;").least(1, 3), 0);
        Due.is("least(1, 2) of who rides", Due.atStep(Due.TWO, 2).least(1, 2), 0);
    }

    @Says(promise = 20, text = "the least he is to SHOW from now on (0 to 9), so that he is BROUGHT within d STEPS; NONE.")
    static void leastIsMost() {
        LiftEnvy x = Due.housed("f2,0;c0,1,9,0;c0,1,8,0;");
        Due.is("least(1, 60)", x.least(1, 60), NONE);
        x.show(0, 8);
        Due.is("least(1, 60)", x.least(1, 60), 9);
        Due.is("person(1, 2) stays", x.person(1, 2), 8);
    }

    @Says(promise = 20, text = "the least he is to SHOW from now on (0 to 9), so that he is BROUGHT within d STEPS; NONE.")
    static void leastWithinExactlySoManySteps() {
        LiftEnvy x = Due.housed(queue(0));
        Due.is("least(0, 60)", x.least(0, 60), 6);
        Due.is("least(0, 59)", x.least(0, 59), 7);
        Due.is("least(0, 40)", x.least(0, 40), 7);
        Due.is("least(0, 39)", x.least(0, 39), 8);
        Due.is("least(0, 20)", x.least(0, 20), 8);
        Due.is("least(0, 19)", x.least(0, 19), NONE);
    }

    @Says(promise = 20, text = "the least he is to SHOW from now on (0 to 9), so that he is BROUGHT within d STEPS; NONE.")
    static void leastOfOneBehindOthers() {
        LiftEnvy x = Due.housed(queue(0));
        Due.is("least(4, 60)", x.least(4, 60), 8);
        Due.is("least(4, 59)", x.least(4, 59), 9);
        Due.is("least(4, 40)", x.least(4, 40), 9);
        Due.is("least(4, 39)", x.least(4, 39), NONE);
    }

    @Says(promise = 20, text = "d STEPS from now (0 to 60)")
    static void leastWithinNoStep() {
        Due.is("least(1, 0)", Due.housed(Due.TWO).least(1, 0), NONE);
        Due.is("least(1, 0) a STEP ahead", Due.atStep(Due.TWO, 3).least(1, 0), NONE);
        Due.is("least(1, 1) a STEP ahead", Due.atStep(Due.TWO, 3).least(1, 1), 0);
    }

    @Says(promise = 20, text = "d STEPS from now (0 to 60)")
    static void leastWithinTooMany() {
        LiftEnvy x = Due.housed(Due.TWO);
        Due.tooSmall("least(1, v)", v -> x.least(1, v), 0);
        Due.tooLarge("least(1, v)", v -> x.least(1, v), 60);
    }

    @Says(promise = 20, text = "LEAST; NONE. BAD; STATE: he is BROUGHT.")
    static void leastOfNobody() {
        LiftEnvy x = Due.housed(Due.TWO);
        Due.tooSmall("least(v, 9)", v -> x.least(v, 9), 0);
        Due.tooLarge("least(v, 9)", v -> x.least(v, 9), 1);
    }

    @Says(promise = 20, text = "LEAST; NONE. BAD; STATE: he is BROUGHT.")
    static void leastOfWhoIsBrought() {
        LiftEnvy x = Due.atStep(Due.TWO, 4);
        Due.each("least(1, v)", v -> x.least(1, v), STATE, 0, 1, 60);
        Due.each("least(1, v)", v -> x.least(1, v), BAD, -1, 61);
        Due.is("least(0, 60) of who is not", x.least(0, 60), NONE);
    }

    // ---- promise 21

    @Says(promise = 21, text = "so that within 99 STEPS most are BROUGHT")
    static void hideWithinExactly99() {
        LiftEnvy x = Due.housed(queue(1));
        Due.is("hide(0), the fifth in 99", x.hide(0), 5);
        Due.is("hide(1)", x.hide(1), 0);
    }

    @Says(promise = 21, text = "so that within 99 STEPS most are BROUGHT")
    static void hideBeyond99() {
        LiftEnvy x = Due.housed(queue(0));
        Due.is("hide(0), the fifth in 100", x.hide(0), 4);
        Due.is("hide(1)", x.hide(1), 0);
    }

    @Says(promise = 21, text = "so that within 99 STEPS most are BROUGHT")
    static void hideSeveralWithinExactly99() {
        LiftEnvy x = Due.housed("f9,0;v9,0,5,9;e9,0,0,2;m9,1,1,4;c9,0,2,5;c9,0,4,8;e9,0,3,0;");
        Due.is("hide(0), five in 99", x.hide(0), 5);
        Due.is("hide(1), three hide", x.hide(1), 25);
        x = Due.housed("f9,3;c9,0,7,9;e9,0,1,1;h9,0,7,1;m9,0,2,8;m9,0,1,4;e9,9,6,4;");
        Due.is("hide(0), six in 99", x.hide(0), 6);
        Due.is("hide(1), three hide", x.hide(1), 21);
    }

    @Says(promise = 21, text = "so that within 99 STEPS most are BROUGHT")
    static void hideThatMoreAreBroughtThoughLater() {
        // as it is, one is BROUGHT in 3 STEPS; if the first one hides, two are, in 6
        LiftEnvy x = Due.housed("f1,0;m0,1,5,1;v1,0,5,1;c0,1,2,1;");
        Due.is("never()", x.never(), 6);
        Due.is("hide(0)", x.hide(0), 2);
        Due.is("hide(1)", x.hide(1), 1);
    }

    @Says(promise = 21, text = "of such ones the last of them soonest")
    static void hideThatItIsSooner() {
        // as it is, the first one is BROUGHT in 5 STEPS; if he hides, the second one in 4
        LiftEnvy x = Due.housed("f3,0;c1,3,5,0;v1,0,2,0;");
        Due.is("when(0)", x.when(0), 5);
        Due.is("hide(0)", x.hide(0), 1);
        Due.is("hide(1)", x.hide(1), 1);
        x.show(0, 0);
        Due.is("when(1)", x.when(1), 4);
    }

    @Says(promise = 21, text = "of several with fewest in the set, then the least bits")
    static void hideAsFewAsCanBe() {
        // 5, that is 0 and 2, would be as good as 3 alone, and has less bits
        LiftEnvy x = Due.housed("f1,0;v0,0,3,0;m1,1,1,0;v1,0,3,3;c1,0,5,3;e0,0,4,2;");
        Due.is("hide(0)", x.hide(0), 4);
        Due.is("hide(1)", x.hide(1), 8);
    }

    @Says(promise = 21, text = "of several with fewest in the set, then the least bits")
    static void hideTheLeastBits() {
        LiftEnvy x = Due.housed("f1,0;c0,0,3,0;c0,0,3,0;");
        Due.is("hide(0)", x.hide(0), 1);
        Due.is("hide(1)", x.hide(1), 1);
    }

    @Says(promise = 21, text = "of several with fewest in the set, then the least bits")
    static void hideNobody() {
        Due.is("hide(1), none can be BROUGHT", Due.housed("f1,0;c0,0,3,0;c1,0,3,0;").hide(1), 0);
        Due.is("hide(0), none can be BROUGHT", Due.housed("f1,0;c0,0,3,0;c1,0,3,0;").hide(0), 0);
        Due.each("hide(v) in an empty house", Due.housed("f4,2;")::hide, 0, 0, 1);
    }

    @Says(promise = 21, text = "sets of PEOPLE who SHOW nothing from now on")
    static void hideNoMoreThanAll() {
        // who hides shows as little as who shows nothing: neither minds the other one
        LiftEnvy x = Due.housed("f3,0;c1,3,3,0;c1,0,0,0;");
        Due.is("hide(0)", x.hide(0), 1);
        Due.is("hide(1)", x.hide(1), 0);
    }

    @Says(promise = 21, text = "HIDE: how many are BROUGHT (what = 0), the set (1).")
    static void hideWhenAllAreBrought() {
        LiftEnvy x = Due.housed("f1,0;" + "e0,0,9,0;".repeat(6));
        Due.is("hide(0)", x.hide(0), 6);
        x.steps(12);
        Due.is("hide(0), all are BROUGHT", x.hide(0), 6);
        Due.is("hide(1), all are BROUGHT", x.hide(1), 0);
    }

    @Says(promise = 21, text = "HIDE: how many are BROUGHT (what = 0), the set (1).")
    static void hideOfNoSuchThing() {
        LiftEnvy x = Due.housed(Due.TWO);
        Due.tooSmall("hide(v)", x::hide, 0);
        Due.tooLarge("hide(v)", x::hide, 1);
    }

    @Says(promise = 21, text = "STATE: no HOUSE (ahead of BAD).")
    static void hideWithoutAHouse() {
        LiftEnvy x = new LiftEnvy();
        Due.each("hide(v)", x::hide, STATE, 0, 1, -1, 2, LOW, HIGH);
    }

    // ---- promise 22

    @Says(promise = 22, text = "so that he is BROUGHT soonest (within 99), of several the least")
    static void besideWithinExactly99() {
        LiftEnvy x = Due.housed(queue(1));
        Due.is("beside(4, 0)", x.beside(4, 0), 9);
        Due.is("beside(4, 1)", x.beside(4, 1), 99);
    }

    @Says(promise = 22, text = "so that he is BROUGHT soonest (within 99), of several the least")
    static void besideBeyond99() {
        LiftEnvy x = Due.housed(queue(0));
        Due.each("beside(4, v)", v -> x.beside(4, v), NONE, 0, 1);
        x.steps(1);
        Due.is("beside(4, 1) a STEP later", x.beside(4, 1), 99);
    }

    @Says(promise = 22, text = "so that he is BROUGHT soonest (within 99), of several the least")
    static void besideOfSeveralFloors() {
        // to floor 1 the car goes 2 STEPS, to floor 5 as well; what he wants is as far from both
        LiftEnvy x = Due.housed("f6,3;c1,3,0,0;c5,3,0,0;c0,3,4,0;");
        Due.is("beside(2, 0)", x.beside(2, 0), 1);
        Due.is("beside(2, 1)", x.beside(2, 1), 6);
    }

    @Says(promise = 22, text = "so that he is BROUGHT soonest (within 99), of several the least")
    static void besideSoonestOnTheHigherFloor() {
        LiftEnvy x = Due.housed("f6,4;c1,3,0,0;c5,3,0,0;c0,3,4,0;");
        Due.is("beside(2, 0)", x.beside(2, 0), 5);
        Due.is("beside(2, 1)", x.beside(2, 1), 5);
    }

    @Says(promise = 22, text = "the FLOOR to which he is to be put now (or where he is)")
    static void besideAtBothEnds() {
        LiftEnvy x = Due.housed("f9,9;c9,9,0,0;c0,9,4,0;");
        Due.is("beside(1, 0) at the top", x.beside(1, 0), 9);
        Due.is("beside(1, 1)", x.beside(1, 1), 2);
        x = Due.housed("f9,0;c0,9,0,0;c9,0,4,0;");
        Due.is("beside(1, 0) at 0", x.beside(1, 0), 0);
        Due.is("beside(1, 1)", x.beside(1, 1), 2);
        Due.is("person(1, 0) stays", x.person(1, 0), 9);
    }

    @Says(promise = 22, text = "the FLOOR to which he is to be put now (or where he is)")
    static void besideWhereHeIs() {
        LiftEnvy x = Due.housed(Due.TWO);
        Due.is("beside(1, 0)", x.beside(1, 0), 1);
        Due.is("beside(1, 1)", x.beside(1, 1), 4);
    }

    @Says(promise = 22, text = "the FLOOR (what = 0), behind how many STEPS (1); NONE. BAD;")
    static void besideNobody() {
        Due.each("beside(0, v)", v -> Due.housed(Due.TWO).beside(0, v), NONE, 0, 1);
        Due.each("beside(0, v)", v -> Due.housed("f9,0;v3,1,9,9;").beside(0, v), NONE, 0, 1);
    }

    @Says(promise = 22, text = "the FLOOR (what = 0), behind how many STEPS (1); NONE. BAD;")
    static void besideOfNoSuchThing() {
        LiftEnvy x = Due.housed(Due.TWO);
        Due.tooSmall("beside(1, v)", v -> x.beside(1, v), 0);
        Due.tooLarge("beside(1, v)", v -> x.beside(1, v), 1);
    }

    @Says(promise = 22, text = "the FLOOR (what = 0), behind how many STEPS (1); NONE. BAD;")
    static void besideOfNobody() {
        LiftEnvy x = Due.housed(Due.TWO);
        Due.tooSmall("beside(v, 0)", v -> x.beside(v, 0), 0);
        Due.tooLarge("beside(v, 0)", v -> x.beside(v, 0), 1);
    }

    @Says(promise = 22, text = "STATE: he rides, he is BROUGHT.")
    static void besideOfWhoRides() {
        LiftEnvy x = Due.atStep(Due.TWO, 2);
        Due.each("beside(1, v)", v -> x.beside(1, v), STATE, 0, 1);
        Due.each("beside(1, v)", v -> x.beside(1, v), BAD, -1, 2);
        Due.is("beside(0, 0) of who does not", x.beside(0, 0), NONE);
    }

    @Says(promise = 22, text = "STATE: he rides, he is BROUGHT.")
    static void besideOfWhoIsBrought() {
        LiftEnvy x = Due.atStep(Due.TWO, 4);
        Due.each("beside(1, v)", v -> x.beside(1, v), STATE, 0, 1);
        Due.each("beside(1, v)", v -> x.beside(1, v), BAD, -1, 2);
    }

    // ---- promise 23

    @Says(promise = 23, text = "A row tells where the car is behind each of n STEPS (1 to 16) from now on.")
    static void fitsOfOneStep() {
        LiftEnvy x = queueWithRow(0, 20);
        Due.is("fits(5, 0, 0, 1, 1)", x.fits(5, 0, 0, 1, 1), 511);
        Due.is("fits(5, 0, 1, 1, 1)", x.fits(5, 0, 1, 1, 1), 0);
    }

    @Says(promise = 23, text = "A row tells where the car is behind each of n STEPS (1 to 16) from now on.")
    static void fitsOfSixteenSteps() {
        LiftEnvy x = queueWithRow(1, 20);
        Due.is("fits(0, 0, 0, 15, 2)", x.fits(0, 0, 0, 15, 2), 31);
        Due.is("fits(0, 0, 0, 16, 2)", x.fits(0, 0, 0, 16, 2), 15);
    }

    @Says(promise = 23, text = "A row tells where the car is behind each of n STEPS (1 to 16) from now on.")
    static void fitsOfAWrongLastStep() {
        LiftEnvy x = queueWithRow(2, 20);
        x.set(0, 15, 4);
        Due.is("fits(0, 0, 0, 16, 1)", x.fits(0, 0, 0, 16, 1), 0);
        Due.is("fits(0, 0, 0, 15, 1)", x.fits(0, 0, 0, 15, 1), 1023);
    }

    @Says(promise = 23, text = "A row tells where the car is behind each of n STEPS (1 to 16) from now on.")
    static void fitsOfAWrongFirstStep() {
        LiftEnvy x = queueWithRow(2, 20);
        x.set(0, 0, 0);
        Due.is("fits(0, 0, 0, 16, 1)", x.fits(0, 0, 0, 16, 1), 0);
    }

    @Says(promise = 23, text = "BAD: PERSON, ROW, n, what; NULL; PLACE.")
    static void fitsOfTooFewSteps() {
        LiftEnvy x = queueWithRow(0, 20);
        Due.tooSmall("fits(0, 0, 0, v, 0)", v -> x.fits(0, 0, 0, v, 0), 1);
    }

    @Says(promise = 23, text = "BAD: PERSON, ROW, n, what; NULL; PLACE.")
    static void fitsOfTooManySteps() {
        LiftEnvy x = queueWithRow(0, 20);
        Due.tooLarge("fits(0, 0, 0, v, 0)", v -> x.fits(0, 0, 0, v, 0), 16);
    }

    @Says(promise = 23, text = "BAD: PERSON, ROW, n, what; NULL; PLACE.")
    static void fitsOfNobody() {
        LiftEnvy x = Due.housed(Due.TWO);
        x.row(0, 0, 20);
        Due.tooSmall("fits(v, 0, 0, 1, 0)", v -> x.fits(v, 0, 0, 1, 0), 0);
        Due.tooLarge("fits(v, 0, 0, 1, 0)", v -> x.fits(v, 0, 0, 1, 0), 1);
    }

    @Says(promise = 23, text = "BAD: PERSON, ROW, n, what; NULL; PLACE.")
    static void fitsOfNoRow() {
        LiftEnvy x = queueWithRow(0, 20);
        Due.tooSmall("fits(0, v, 0, 1, 0)", v -> x.fits(0, v, 0, 1, 0), 0);
        Due.tooLarge("fits(0, v, 0, 1, 0)", v -> x.fits(0, v, 0, 1, 0), 7);
    }

    @Says(promise = 23, text = "BAD: PERSON, ROW, n, what; NULL; PLACE.")
    static void fitsOfNoSuchThing() {
        LiftEnvy x = queueWithRow(0, 20);
        Due.tooSmall("fits(0, 0, 0, 1, v)", v -> x.fits(0, 0, 0, 1, v), 0);
        Due.tooLarge("fits(0, 0, 0, 1, v)", v -> x.fits(0, 0, 0, 1, v), 2);
    }

    @Says(promise = 23, text = "NULL (a ROW that is missing)")
    static void fitsOfAMissingRow() {
        LiftEnvy x = queueWithRow(0, 20);
        Due.is("fits(0, 7, 0, 1, 0)", x.fits(0, 7, 0, 1, 0), NULL);
        x.drop(0);
        Due.is("fits(0, 0, 0, 1, 0)", x.fits(0, 0, 0, 1, 0), NULL);
    }

    @Says(promise = 23, text = "PLACE (no such place of a ROW)")
    static void fitsBelowARow() {
        LiftEnvy x = queueWithRow(0, 20);
        Due.each("fits(0, 0, v, 1, 0)", v -> x.fits(0, 0, v, 1, 0), PLACE, -1);
        Due.each("fits(0, 0, v, 16, 0)", v -> x.fits(0, 0, v, 16, 0), PLACE, Due.FAR_BELOW);
    }

    @Says(promise = 23, text = "PLACE (no such place of a ROW)")
    static void fitsBeyondARow() {
        LiftEnvy x = queueWithRow(0, 16);
        Due.each("fits(0, 0, v, 1, 0)", v -> x.fits(0, 0, v, 1, 0), PLACE, 16, 17);
        Due.each("fits(0, 0, v, 16, 0)", v -> x.fits(0, 0, v, 16, 0), PLACE, 1, 2);
        Due.each("fits(0, 0, v, 16, 0)", v -> x.fits(0, 0, v, 16, 0), PLACE, Due.FAR_ABOVE);
        x.row(1, 0, 0);
        Due.is("fits(0, 1, 0, 1, 0)", x.fits(0, 1, 0, 1, 0), PLACE);
    }

    @Says(promise = 23, text = "n ITEMS of a ROW from i on.")
    static void fitsToTheVeryEndOfARow() {
        LiftEnvy x = queueWithRow(0, 16);
        Due.is("fits(0, 0, 0, 16, 1)", x.fits(0, 0, 0, 16, 1), 1023);
        x.row(1, 0, 40);
        x.copy(0, 0, 1, 24, 16);
        Due.is("fits(0, 1, 24, 16, 1)", x.fits(0, 1, 24, 16, 1), 1023);
        Due.is("fits(0, 1, 25, 16, 1)", x.fits(0, 1, 25, 16, 1), PLACE);
    }

    @Says(promise = 23, text = "SORTS: KINDS (bits 1 to 5) of one by which it goes so.")
    static void fitsOfAllKindsAndOfNone() {
        LiftEnvy x = queueWithRow(0, 16);
        Due.is("fits(0, 0, 0, 16, 0): all", x.fits(0, 0, 0, 16, 0), 62);
        Due.is("fits(5, 0, 0, 16, 0): not a chief", x.fits(5, 0, 0, 16, 0), 46);
        Due.is("fits(0, 0, 1, 15, 0): none", x.fits(0, 0, 1, 15, 0), 0);
    }

    @Says(promise = 23, text = "SHOWN: what one SHOWS (0 to 9, bits) by which it goes so.")
    static void fitsOfLeastAndMostShown() {
        LiftEnvy x = Due.housed("f1,0;c1,1,0,0;c1,1,0,0;");
        x.row(0, 0, 1);
        Due.is("fits(1, 0, 0, 1, 1): 0 alone", x.fits(1, 0, 0, 1, 1), 1);
        x.set(0, 0, 1);
        Due.is("fits(1, 0, 0, 1, 1): 1 to 9", x.fits(1, 0, 0, 1, 1), 1022);
        x.show(0, 8);
        x.show(1, 1);
        x.walk(0, 0);
        Due.is("fits(1, 0, 0, 1, 1): none", x.fits(1, 0, 0, 1, 1), 0);
    }

    @Says(promise = 23, text = "WANTED: the FLOOR (bits) one WANTS by which it goes so.")
    static void fitsOfLowestAndHighestWanted() {
        LiftEnvy x = Due.housed("f9,5;c0,0,0,0;");
        x.row(0, 0, 1);
        x.set(0, 0, 5);
        Due.is("fits(0, 0, 0, 1, 2): all of 10", x.fits(0, 0, 0, 1, 2), 1023);
        Due.told(x, "f1,1;c0,0,0,0;");
        x.set(0, 0, 1);
        Due.is("fits(0, 0, 0, 1, 2): all of 2", x.fits(0, 0, 0, 1, 2), 3);
        Due.told(x, "f9,9;c9,0,0,0;c9,8,5,0;");
        x.row(0, 0, 2);
        x.set(0, 0, 9);
        x.set(0, 1, 9);
        Due.is("fits(1, 0, 0, 2, 2): 9 alone", x.fits(1, 0, 0, 2, 2), 512);
        x.set(0, 1, 8);
        Due.is("fits(1, 0, 0, 2, 2): all below 9", x.fits(1, 0, 0, 2, 2), 511);
    }

    @Says(promise = 23, text = "A row tells where the car is")
    static void fitsOfItemsThatAreNoFloor() {
        LiftEnvy x = Due.housed("f9,0;c0,0,0,0;");
        x.row(0, 2, 1);
        Due.is("fits with 0", x.fits(0, 0, 0, 1, 0), 62);
        for (int v : new int[] {-1, 10, 256, 65536, LOW, HIGH}) {
            x.set(0, 0, v);
            Due.is("fits with " + v, x.fits(0, 0, 0, 1, 0), 0);
        }
        x.row(0, 0, 1);
        x.set(0, 0, 256);
        Due.is("fits with 256 in a row of bytes", x.fits(0, 0, 0, 1, 0), 62);
    }

    @Says(promise = 23, text = "from now on")
    static void fitsOfWhoRidesAndOfWhoIsBrought() {
        LiftEnvy x = Due.atStep(Due.TWO, 2);
        x.row(0, 0, 2);
        Due.is("fits(1, 0, 0, 2, 2) of who rides", x.fits(1, 0, 0, 2, 2), 1);
        Due.is("fits(1, 0, 0, 2, 1) of who rides", x.fits(1, 0, 0, 2, 1), 1023);
        x.steps(2);
        Due.is("fits(1, 0, 0, 2, 2) of who is BROUGHT", x.fits(1, 0, 0, 2, 2), 15);
    }

    // ---- promise 24

    private static void isFraction(LiftEnvy x, int p, int d, int c, int above, int below) {
        String call = "hidden(" + p + ", " + d + ", " + c + ", ";
        Due.is(call + "0)", x.hidden(p, d, c, 0), above);
        Due.is(call + "1)", x.hidden(p, d, c, 1), below);
    }

    @Says(promise = 24, text = "each who SHOWS anything hides it from now on by c of 10, each by himself")
    static void hiddenByNone() {
        LiftEnvy x = Due.housed(Due.TWO);
        isFraction(x, 1, 4, 0, 1, 1);
        isFraction(x, 0, 60, 0, 0, 1);
    }

    @Says(promise = 24, text = "each who SHOWS anything hides it from now on by c of 10, each by himself")
    static void hiddenByAll() {
        LiftEnvy x = Due.housed(Due.TWO);
        isFraction(x, 1, 60, 10, 0, 1);
        LiftEnvy heirs = Due.housed("f1,0;e0,0,9,0;e0,0,9,0;");
        isFraction(heirs, 0, 2, 10, 1, 1);
    }

    @Says(promise = 24, text = "each who SHOWS anything hides it from now on by c of 10, each by himself")
    static void hiddenOfOneTenth() {
        LiftEnvy x = Due.housed(Due.TWO);
        isFraction(x, 1, 4, 1, 9, 10);
        isFraction(x, 1, 4, 9, 1, 10);
    }

    @Says(promise = 24, text = "each who SHOWS anything hides it from now on by c of 10, each by himself")
    static void hiddenOfLeastAndMostShown() {
        isFraction(Due.housed("f3,0;c1,3,0,0;c1,0,1,0;"), 1, 4, 5, 1, 2);
        isFraction(Due.housed("f3,0;c1,3,0,0;c1,0,9,0;"), 1, 4, 5, 1, 2);
    }

    @Says(promise = 24, text = "each who SHOWS anything hides it from now on by c of 10, each by himself")
    static void hiddenNoMoreThanAll() {
        LiftEnvy x = Due.housed("f3,0;c1,3,3,0;c1,0,0,0;");
        isFraction(x, 0, 60, 3, 7, 10);
        isFraction(x, 1, 60, 3, 0, 1);
        isFraction(x, 1, 60, 10, 0, 1);
    }

    @Says(promise = 24, text = "each who SHOWS anything hides it from now on by c of 10, each by himself")
    static void hiddenOfNobodyWhoShows() {
        LiftEnvy x = Due.housed("f1,0;e0,0,0,0;c0,0,0,0;");
        isFraction(x, 1, 2, 5, 1, 1);
        isFraction(x, 0, 60, 5, 0, 1);
    }

    @Says(promise = 24, text = "each who SHOWS anything hides it from now on by c of 10, each by himself")
    static void hiddenOfSixWhoShow() {
        LiftEnvy x = Due.housed("f1,0;c0,0,9,0;c0,0,8,0;c0,0,7,0;c0,0,6,0;c0,0,5,0;c0,0,4,0;");
        // the last one is first, if the five others hide and he does not
        isFraction(x, 5, 2, 1, 9, 1000000);
        isFraction(x, 5, 2, 9, 59049, 1000000);
        isFraction(x, 5, 2, 5, 1, 64);
        isFraction(x, 0, 2, 1, 9, 10);
    }

    @Says(promise = 24, text = "fractions, told as two numbers in lowest terms (0 is 0 by 1)")
    static void hiddenInLowestTerms() {
        LiftEnvy x = Due.housed(Due.TWO);
        isFraction(x, 1, 4, 5, 1, 2);
        isFraction(x, 1, 4, 6, 2, 5);
        isFraction(x, 1, 4, 3, 7, 10);
        x.show(0, 9);
        isFraction(x, 1, 60, 6, 6, 25);
    }

    @Says(promise = 24, text = "fractions, told as two numbers in lowest terms (0 is 0 by 1)")
    static void hiddenThatIs0() {
        LiftEnvy x = Due.housed("f1,0;c0,0,9,0;v0,0,9,0;m1,0,9,0;h1,0,9,0;e1,0,9,0;v1,1,9,9;");
        isFraction(x, 0, 1, 5, 0, 1);
        isFraction(x, 0, 0, 5, 0, 1);
    }

    @Says(promise = 24, text = "that one is BROUGHT within d STEPS: a fraction.")
    static void hiddenWithinExactlySoManySteps() {
        LiftEnvy x = Due.housed(Due.TWO);
        isFraction(x, 1, 4, 3, 7, 10);
        isFraction(x, 1, 3, 3, 0, 1);
        LiftEnvy late = Due.housed(queue(0));
        isFraction(late, 2, 60, 0, 1, 1);
        isFraction(late, 2, 59, 0, 0, 1);
    }

    @Says(promise = 24, text = "that one is BROUGHT within d STEPS: a fraction.")
    static void hiddenOfWhoIsBroughtOrRides() {
        LiftEnvy x = Due.atStep(Due.TWO, 3);
        isFraction(x, 1, 0, 10, 0, 1);
        isFraction(x, 1, 1, 10, 1, 1);
        x.steps(1);
        isFraction(x, 1, 0, 10, 1, 1);
    }

    @Says(promise = 24, text = "d STEPS from now (0 to 60)")
    static void hiddenTooFar() {
        LiftEnvy x = Due.housed(Due.TWO);
        Due.tooSmall("hidden(1, v, 1, 0)", v -> x.hidden(1, v, 1, 0), 0);
        Due.tooLarge("hidden(1, v, 1, 0)", v -> x.hidden(1, v, 1, 0), 60);
    }

    @Says(promise = 24, text = "HIDDEN (c 0 to 10): above (what = 0), below (1). BAD.")
    static void hiddenByFewerThanNone() {
        LiftEnvy x = Due.housed(Due.TWO);
        Due.tooSmall("hidden(1, 1, v, 0)", v -> x.hidden(1, 1, v, 0), 0);
    }

    @Says(promise = 24, text = "HIDDEN (c 0 to 10): above (what = 0), below (1). BAD.")
    static void hiddenByMoreThanAll() {
        LiftEnvy x = Due.housed(Due.TWO);
        Due.tooLarge("hidden(1, 1, v, 0)", v -> x.hidden(1, 1, v, 0), 10);
    }

    @Says(promise = 24, text = "HIDDEN (c 0 to 10): above (what = 0), below (1). BAD.")
    static void hiddenOfNoSuchThing() {
        LiftEnvy x = Due.housed(Due.TWO);
        Due.tooSmall("hidden(1, 1, 1, v)", v -> x.hidden(1, 1, 1, v), 0);
        Due.tooLarge("hidden(1, 1, 1, v)", v -> x.hidden(1, 1, 1, v), 1);
    }

    @Says(promise = 24, text = "HIDDEN (c 0 to 10): above (what = 0), below (1). BAD.")
    static void hiddenOfNobody() {
        LiftEnvy x = Due.housed(Due.TWO);
        Due.tooSmall("hidden(v, 1, 1, 1)", v -> x.hidden(v, 1, 1, 1), 0);
        Due.tooLarge("hidden(v, 1, 1, 1)", v -> x.hidden(v, 1, 1, 1), 1);
    }

    // ---- promise 25

    /** The WALKS once more, by the calls walk and steps; X has room for whatever it becomes. */
    private static void areWalks(String house, int n, int seed) {
        LiftEnvy x = Due.housed(house);
        LiftEnvy twin = Due.housed(house);
        int people = twin.count(1);
        BigInteger at = BigInteger.valueOf(seed);
        for (int k = 0; k < n; k++) {
            at = at.multiply(BigInteger.valueOf(16807)).mod(BigInteger.valueOf(2147483647));
            int way = at.mod(BigInteger.valueOf(3)).intValue();
            if (people > 0 && way < 2) {
                twin.walk(at.mod(BigInteger.valueOf(people)).intValue(), 1 - way);
            }
            twin.steps(1);
        }
        String call = "drawn(" + n + ", " + seed + ", ";
        Due.is(call + "0) of " + house, x.drawn(n, seed, 0), twin.count(4));
        Due.is(call + "1) of " + house, x.drawn(n, seed, 1), twin.car(0));
    }

    @Says(promise = 25, text = "WALKS of n STEPS (0 to 60) by a SEED (X at first)")
    static void walksOfNoStep() {
        LiftEnvy x = Due.atStep(Due.TWO, 4);
        Due.is("drawn(0, 1, 0)", x.drawn(0, 1, 0), 1);
        Due.is("drawn(0, 1, 1)", x.drawn(0, 1, 1), 0);
        Due.is("drawn(0, 999999, 1)", Due.housed("f9,7;").drawn(0, 999999, 1), 7);
    }

    @Says(promise = 25, text = "WALKS of n STEPS (0 to 60) by a SEED (X at first)")
    static void walksOfOneStep() {
        LiftEnvy x = Due.housed(Due.TWO);
        // 16807 leaves 1 by 2, and 1 by 3: the second one goes down, and nobody is minded
        Due.is("drawn(1, 1, 1)", x.drawn(1, 1, 1), 0);
        // 33614 leaves 0 by 2, and 2 by 3: the first one stays, and the car comes nearer
        Due.is("drawn(1, 2, 1)", x.drawn(1, 2, 1), 1);
    }

    @Says(promise = 25, text = "WALKS of n STEPS (0 to 60) by a SEED (X at first)")
    static void walksAsLongAsCanBe() {
        for (int seed = 1; seed <= 40; seed++) {
            areWalks(Due.SIX, 59, seed);
            areWalks(Due.SIX, 60, seed);
        }
    }

    @Says(promise = 25, text = "WALKS of n STEPS (0 to 60) by a SEED (X at first)")
    static void walksTooLong() {
        LiftEnvy x = Due.housed(Due.TWO);
        Due.tooSmall("drawn(v, 1, 0)", v -> x.drawn(v, 1, 0), 0);
        Due.tooLarge("drawn(v, 1, 0)", v -> x.drawn(v, 1, 0), 60);
    }

    @Says(promise = 25, text = "WALKS by a SEED (1 to 999999)")
    static void leastSeedAndLargestSeed() {
        for (int n = 1; n <= 20; n++) {
            areWalks(queue(3), n, 1);
            areWalks(queue(3), n, 999999);
        }
    }

    @Says(promise = 25, text = "WALKS by a SEED (1 to 999999)")
    static void seedTooSmall() {
        LiftEnvy x = Due.housed(Due.TWO);
        Due.tooSmall("drawn(1, v, 0)", v -> x.drawn(1, v, 0), 1);
    }

    @Says(promise = 25, text = "WALKS by a SEED (1 to 999999)")
    static void seedTooLarge() {
        LiftEnvy x = Due.housed(Due.TWO);
        Due.tooLarge("drawn(1, v, 0)", v -> x.drawn(1, v, 0), 999999);
    }

    @Says(promise = 25, text = "ahead of each X becomes the rest of (X times 16807) by 2147483647")
    static void seedsThatWrapAround() {
        // 127774 times 16807 is the first that is more than an int holds
        for (int seed : new int[] {127772, 127773, 127774, 127775, 255548, 999998}) {
            areWalks("f9,4;e4,4,3,2;v4,0,9,0;c4,9,1,0;", 12, seed);
        }
    }

    @Says(promise = 25, text = "the one who is the rest of X by how many there are (nobody: none)")
    static void walksOfNobody() {
        areWalks("f9,7;", 60, 77);
        areWalks("f1,1;", 60, 999999);
    }

    @Says(promise = 25, text = "the one who is the rest of X by how many there are (nobody: none)")
    static void walksOfSoMany() {
        for (int n = 1; n <= 6; n++) {
            areWalks("f5,2;" + "v2,4,9,3;e2,0,3,3;h2,5,0,7;c2,1,6,0;m2,0,8,1;v2,1,0,0;".substring(0, 9 * n),
                40, 31 * n);
        }
    }

    @Says(promise = 25, text = "goes up, if X by 3 leaves 0, down, if it leaves 1 (if there is such a FLOOR)")
    static void walksInTheLowestHouse() {
        for (int seed = 1; seed <= 30; seed++) {
            areWalks("f1,0;c0,1,3,0;c1,0,0,0;v1,1,5,0;h0,0,2,4;", 30, seed);
        }
    }

    @Says(promise = 25, text = "if he does not ride")
    static void walksPastWhoRides() {
        for (int seed = 1; seed <= 30; seed++) {
            areWalks("f9,0;v0,9,0,0;v0,9,9,0;", 15, seed);
        }
    }

    @Says(promise = 25, text = "how many (what = 0), where (1). BAD;")
    static void drawnOfNoSuchThing() {
        LiftEnvy x = Due.housed(Due.TWO);
        Due.tooSmall("drawn(1, 1, v)", v -> x.drawn(1, 1, v), 0);
        Due.tooLarge("drawn(1, 1, v)", v -> x.drawn(1, 1, v), 1);
    }

    @Says(promise = 25, text = "STATE: no HOUSE (ahead of BAD).")
    static void drawnWithoutAHouse() {
        LiftEnvy x = new LiftEnvy();
        Due.each("drawn(v, 1, 0)", v -> x.drawn(v, 1, 0), STATE, 0, 60, -1, 61, LOW, HIGH);
        Due.each("drawn(1, v, 0)", v -> x.drawn(1, v, 0), STATE, 1, 999999, 0, 1000000, LOW, HIGH);
        Due.each("drawn(1, 1, v)", v -> x.drawn(1, 1, v), STATE, 0, 1, -1, 2, LOW, HIGH);
    }
}
