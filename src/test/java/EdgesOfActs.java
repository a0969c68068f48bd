/** Boundary cases of part 2, MINDS, STEP and ACTS, and of the promises 9 to 15. */
final class EdgesOfActs {
    private static final int NONE = LiftEnvy.NONE, BAD = LiftEnvy.BAD, STATE = LiftEnvy.STATE;
    private static final int FULL = LiftEnvy.FULL;

    private EdgesOfActs() {
    }

    /** How much one of a sort, who shows and has a temper as told, minds one who shows so much. */
    private static void isMinded(char sort, int shows, int temper, int other, int due) {
        LiftEnvy x = Due.housed("f9,0;" + sort + "0,1," + shows + "," + temper + ";c0,2," + other + ",0;");
        Due.is("minds(0, 1) of " + sort + " showing " + shows + " with temper " + temper
            + ", the other one " + other, x.minds(0, 1), due);
    }

    // ---- part 2, MINDS

    @Says(promise = 14, text = "a clerk by how much more the other one SHOWS (0 if not more)")
    static void clerkAndOneWhoDoesNotShowMore() {
        isMinded('c', 4, 9, 4, 0);
        isMinded('c', 5, 9, 4, 0);
        isMinded('c', 9, 9, 0, 0);
        isMinded('c', 0, 9, 0, 0);
    }

    @Says(promise = 14, text = "a clerk by how much more the other one SHOWS (0 if not more)")
    static void clerkAndOneWhoShowsMore() {
        isMinded('c', 4, 9, 5, 1);
        isMinded('c', 0, 9, 9, 9);
    }

    @Says(promise = 14, text = "a vain one twice that")
    static void vainOne() {
        isMinded('v', 4, 9, 4, 0);
        isMinded('v', 9, 9, 0, 0);
        isMinded('v', 4, 9, 5, 2);
        isMinded('v', 0, 9, 9, 18);
    }

    @Says(promise = 14, text = "a meek one that, less TEMPER (0 at least)")
    static void meekOneNeverBelow0() {
        isMinded('m', 2, 3, 5, 0);
        isMinded('m', 2, 3, 4, 0);
        isMinded('m', 2, 3, 2, 0);
        isMinded('m', 9, 9, 0, 0);
        isMinded('m', 0, 9, 9, 0);
    }

    @Says(promise = 14, text = "a meek one that, less TEMPER (0 at least)")
    static void meekOneAbove0() {
        isMinded('m', 2, 3, 6, 1);
        isMinded('m', 0, 8, 9, 1);
        isMinded('m', 0, 0, 9, 9);
    }

    @Says(promise = 14, text = "a chief TEMPER, if the other one SHOWS anything, else 0")
    static void chiefAndOneWhoShowsNothing() {
        isMinded('h', 0, 9, 0, 0);
        isMinded('h', 9, 9, 0, 0);
    }

    @Says(promise = 14, text = "a chief TEMPER, if the other one SHOWS anything, else 0")
    static void chiefAndOneWhoShowsAnything() {
        isMinded('h', 9, 9, 1, 9);
        isMinded('h', 0, 1, 9, 1);
        isMinded('h', 0, 0, 9, 0);
    }

    @Says(promise = 14, text = "an heir as a chief, but 9, if both WANT the same FLOOR")
    static void heirAsAChief() {
        isMinded('e', 9, 4, 1, 4);
        isMinded('e', 0, 4, 0, 0);
        isMinded('e', 0, 0, 9, 0);
    }

    @Says(promise = 14, text = "an heir as a chief, but 9, if both WANT the same FLOOR")
    static void heirWithTheSameWant() {
        Due.is("minds(0, 1)", Due.housed("f9,0;e0,0,0,0;c9,0,0,0;").minds(0, 1), 9);
        Due.is("minds(0, 1)", Due.housed("f9,0;e0,9,5,4;c0,9,3,0;").minds(0, 1), 9);
        Due.is("minds(1, 0)", Due.housed("f9,0;e0,9,5,4;c0,9,3,0;").minds(1, 0), 2);
    }

    @Says(promise = 14, text = "BAD: alike, too.")
    static void mindsHimself() {
        LiftEnvy x = Due.housed(Due.SIX);
        Due.each("minds(v, v)", v -> x.minds(v, v), BAD, 0, 1, 2, 3, 4, 5);
    }

    @Says(promise = 14, text = "BAD: alike, too.")
    static void mindsOfNobody() {
        LiftEnvy x = Due.housed(Due.TWO);
        Due.tooSmall("minds(v, 1)", v -> x.minds(v, 1), 0);
        Due.tooLarge("minds(v, 1)", v -> x.minds(v, 1), 1);
    }

    @Says(promise = 14, text = "BAD: alike, too.")
    static void mindsNobody() {
        LiftEnvy x = Due.housed(Due.TWO);
        Due.tooSmall("minds(0, v)", v -> x.minds(0, v), 0);
        Due.tooLarge("minds(0, v)", v -> x.minds(0, v), 1);
    }

    @Says(promise = 14, text = "were they on one FLOOR")
    static void mindsFromAnotherFloor() {
        Due.is("minds(0, 1)", Due.housed("f9,0;c0,0,2,0;c9,0,7,0;").minds(0, 1), 5);
    }

    @Says(promise = 14, text = "were they on one FLOOR")
    static void mindsWhoRides() {
        LiftEnvy x = Due.atStep(Due.TWO, 2);
        Due.is("car(1)", x.car(1), 1);
        Due.is("minds(0, 1)", x.minds(0, 1), 5);
    }

    // ---- part 2, ENVY

    @Says(promise = 13, text = "ENVY of one is what all others on his FLOOR mind him, together")
    static void envyOfOneAlone() {
        Due.is("person(0, 4)", Due.housed("f9,0;v3,1,9,9;").person(0, 4), 0);
        Due.is("person(0, 4)", Due.housed("f9,0;v3,1,9,9;v4,1,0,9;v2,1,0,9;").person(0, 4), 0);
    }

    @Says(promise = 13, text = "ENVY of one is what all others on his FLOOR mind him, together")
    static void envyOfAllOthersTogether() {
        LiftEnvy x = Due.housed("f9,0;v3,1,0,0;v3,1,0,0;v3,1,0,0;v3,1,0,0;v3,1,0,0;v3,1,9,0;");
        Due.is("person(5, 4)", x.person(5, 4), 90);
        x.walk(0, 1);
        Due.is("person(5, 4), one goes", x.person(5, 4), 72);
    }

    @Says(promise = 13, text = "who rides neither minds nor is minded")
    static void envyOfWhoRides() {
        LiftEnvy x = Due.atStep(Due.TWO, 1);
        Due.is("person(1, 4)", x.person(1, 4), 5);
        x.steps(1);
        Due.is("car(1)", x.car(1), 1);
        Due.is("person(1, 4) who rides", x.person(1, 4), 0);
    }

    @Says(promise = 13, text = "who rides neither minds nor is minded")
    static void envyByWhoRides() {
        // the chief is minded by the clerk; the clerk by the chief, while he does not ride
        LiftEnvy x = Due.housed("f3,1;c1,3,1,0;h1,0,9,5;");
        Due.is("person(0, 4)", x.person(0, 4), 5);
        x.steps(1);
        Due.is("car(1)", x.car(1), 1);
        Due.is("person(0, 4) then", x.person(0, 4), 0);
    }

    // ---- part 2, a STEP

    @Says(promise = 9, text = "has most ENVY (1 at least; of several the first)")
    static void envyBelow1() {
        LiftEnvy x = Due.housed("f9,5;c1,2,3,0;c1,9,3,0;");
        Due.is("car(2)", x.car(2), NONE);
        Due.is("steps(1)", x.steps(1), 5);
    }

    @Says(promise = 9, text = "has most ENVY (1 at least; of several the first)")
    static void envyOf1() {
        LiftEnvy x = Due.housed("f9,5;c1,2,3,0;c1,9,4,0;");
        Due.is("car(2)", x.car(2), 1);
        Due.is("steps(1)", x.steps(1), 4);
    }

    @Says(promise = 9, text = "has most ENVY (1 at least; of several the first)")
    static void severalOfMostEnvy() {
        LiftEnvy x = Due.housed("f9,5;c1,1,0,0;h1,2,3,4;h1,9,3,4;h8,1,1,7;h8,1,1,7;");
        Due.is("person(1, 4)", x.person(1, 4), 7);
        Due.is("person(2, 4)", x.person(2, 4), 7);
        Due.is("person(3, 4)", x.person(3, 4), 7);
        Due.is("car(2)", x.car(2), 1);
        Due.is("steps(1)", x.steps(1), 4);
    }

    @Says(promise = 9, text = "has most ENVY (1 at least; of several the first)")
    static void oneMoreThanTheFirst() {
        LiftEnvy x = Due.housed("f9,5;h1,2,3,4;h1,9,3,4;h8,1,1,5;h8,1,1,4;");
        Due.is("car(2)", x.car(2), 3);
        Due.is("steps(1)", x.steps(1), 6);
    }

    @Says(promise = 9, text = "it is for that one of those who are not BROUGHT")
    static void notForWhoIsBrought() {
        LiftEnvy x = Due.housed("f2,1;c1,0,0,0;v1,1,9,0;c0,2,5,0;c0,2,0,0;");
        x.steps(2);
        Due.is("car(3)", x.car(3), 2);
        Due.is("person(1, 4) who is BROUGHT", x.person(1, 4), 9);
        Due.is("car(2)", x.car(2), 2);
    }

    @Says(promise = 9, text = "If there is no such one, it stays. STEP is 1 more.")
    static void stepOfACarThatStays() {
        LiftEnvy x = Due.housed("f4,3;");
        Due.is("steps(1)", x.steps(1), 3);
        Due.is("count(2)", x.count(2), 1);
        Due.is("count(5)", x.count(5), 1);
        Due.is("steps(24)", x.steps(24), 3);
        Due.is("count(2)", x.count(2), 25);
    }

    @Says(promise = 9, text = "if the car is on his FLOOR, he gets on (rides); else it goes a FLOOR nearer")
    static void carOnHisFloor() {
        LiftEnvy x = Due.housed("f3,1;c1,3,0,0;c1,0,5,0;");
        Due.is("steps(1)", x.steps(1), 1);
        Due.is("car(1)", x.car(1), 1);
        Due.is("person(1, 0)", x.person(1, 0), 1);
    }

    @Says(promise = 9, text = "if the car is on his FLOOR, he gets on (rides); else it goes a FLOOR nearer")
    static void carAFloorAway() {
        LiftEnvy x = Due.housed("f3,0;c1,3,0,0;c1,0,5,0;");
        Due.is("steps(1) upwards", x.steps(1), 1);
        Due.is("car(1)", x.car(1), NONE);
        x = Due.housed("f3,2;c1,3,0,0;c1,0,5,0;");
        Due.is("steps(1) downwards", x.steps(1), 1);
        Due.is("car(1)", x.car(1), NONE);
    }

    @Says(promise = 9, text = "if it is elsewhere, it goes a FLOOR nearer, and he with it")
    static void rideFromEndToEnd() {
        LiftEnvy x = Due.housed("f9,0;c0,0,0,0;c0,9,5,0;");
        x.steps(1);
        for (int f = 1; f <= 9; f++) {
            Due.is("steps(1)", x.steps(1), f);
            Due.is("person(1, 0)", x.person(1, 0), f);
            Due.is("person(1, 5)", x.person(1, 5), 0);
        }
        Due.is("steps(1)", x.steps(1), 9);
        Due.is("person(1, 5)", x.person(1, 5), 1);
        x = Due.housed("f9,9;c9,0,0,0;c9,0,5,0;");
        x.steps(1);
        Due.is("steps(9) downwards", x.steps(9), 0);
        Due.is("person(1, 5)", x.person(1, 5), 0);
        x.steps(1);
        Due.is("person(1, 5)", x.person(1, 5), 1);
    }

    @Says(promise = 9, text = "and the car is at what he WANTS, he gets off there and is BROUGHT")
    static void rideToWhereHeIs() {
        LiftEnvy x = Due.housed("f9,5;c5,5,0,0;c5,5,1,0;");
        x.steps(1);
        Due.is("car(1)", x.car(1), 1);
        Due.is("car(3)", x.car(3), 0);
        Due.is("steps(1)", x.steps(1), 5);
        Due.is("car(1) then", x.car(1), NONE);
        Due.is("car(3) then", x.car(3), 2);
        Due.is("person(1, 0) then", x.person(1, 0), 5);
    }

    // ---- promise 9

    @Says(promise = 9, text = "n STEPS (1 to 24), an ACT each: where the car is.")
    static void fewestStepsAndMostSteps() {
        LiftEnvy x = Due.housed(Due.SIX);
        Due.is("steps(1)", x.steps(1), 1);
        Due.is("count(2)", x.count(2), 1);
        Due.is("count(5)", x.count(5), 1);
        x = Due.housed(Due.SIX);
        Due.is("steps(24)", x.steps(24), Due.housed(Due.SIX).ahead(24, 0));
        Due.is("count(2)", x.count(2), 24);
        Due.is("count(5)", x.count(5), 24);
    }

    @Says(promise = 9, text = "n STEPS (1 to 24)")
    static void tooFewSteps() {
        LiftEnvy x = Due.housed(Due.TWO);
        Due.tooSmall("steps(v)", x::steps, 1);
        Due.is("count(2)", x.count(2), 0);
        Due.is("count(5)", x.count(5), 0);
    }

    @Says(promise = 9, text = "n STEPS (1 to 24)")
    static void tooManySteps() {
        LiftEnvy x = Due.atStep(Due.TWO, 1);
        Due.tooLarge("steps(v)", x::steps, 24);
        Due.is("count(2)", x.count(2), 1);
    }

    @Says(promise = 9, text = "STATE: no HOUSE (ahead of BAD)")
    static void stepsWithoutAHouse() {
        LiftEnvy x = new LiftEnvy();
        Due.each("steps(v)", x::steps, STATE, 1, 24, 0, 25, -1, Integer.MAX_VALUE, Integer.MIN_VALUE);
    }

    @Says(promise = 9, text = "FULL: beyond STEP 999.")
    static void stepsToTheLast() {
        LiftEnvy x = Due.atStep(Due.TWO, 975);
        Due.is("steps(24)", x.steps(24), 0);
        Due.is("count(2)", x.count(2), 999);
    }

    @Says(promise = 9, text = "FULL: beyond STEP 999.")
    static void stepsBeyondTheLast() {
        LiftEnvy x = Due.atStep(Due.TWO, 976);
        Due.is("steps(24)", x.steps(24), FULL);
        Due.is("count(2)", x.count(2), 976);
        Due.is("steps(23)", x.steps(23), 0);
        Due.is("count(2)", x.count(2), 999);
    }

    @Says(promise = 9, text = "FULL: beyond STEP 999.")
    static void stepsAtTheLast() {
        LiftEnvy x = Due.atStep(Due.TWO, 999);
        Due.each("steps(v)", x::steps, FULL, 1, 24);
        Due.each("steps(v)", x::steps, BAD, 0, 25);
        Due.is("count(2)", x.count(2), 999);
        Due.is("count(5)", x.count(5), 24);
    }

    @Says(promise = 9, text = "FULL: beyond STEP 999.")
    static void stepsAgainBehindAnUndo() {
        LiftEnvy x = Due.atStep(Due.TWO, 999);
        x.undo();
        Due.is("steps(2)", x.steps(2), FULL);
        Due.is("steps(1)", x.steps(1), 0);
        Due.is("steps(1) again", x.steps(1), FULL);
    }

    // ---- part 2, ACTS, and promise 12

    @Says(promise = 12, text = "24 at most are kept, of more the oldest is forgotten")
    static void asManyActsAsAreKept() {
        LiftEnvy x = Due.housed(Due.TWO);
        x.steps(24);
        for (int k = 23; k >= 0; k--) {
            Due.is("undo()", x.undo(), k);
            Due.is("count(2)", x.count(2), k);
        }
        Due.is("undo()", x.undo(), STATE);
    }

    @Says(promise = 12, text = "24 at most are kept, of more the oldest is forgotten")
    static void oneActMoreThanIsKept() {
        LiftEnvy x = Due.housed(Due.TWO);
        x.show(0, 7);
        x.steps(24);
        Due.is("count(5)", x.count(5), 24);
        for (int k = 23; k >= 0; k--) {
            Due.is("undo()", x.undo(), k);
        }
        Due.is("undo()", x.undo(), STATE);
        Due.is("count(2)", x.count(2), 0);
        Due.is("person(0, 2): the oldest is forgotten", x.person(0, 2), 7);
    }

    @Says(promise = 12, text = "24 at most are kept, of more the oldest is forgotten")
    static void manyMoreActsThanAreKept() {
        LiftEnvy x = Due.housed(Due.TWO);
        for (int k = 0; k < 100; k++) {
            x.show(0, k % 10);
            Due.is("count(5)", x.count(5), Math.min(k + 1, 24));
        }
        for (int k = 23; k >= 0; k--) {
            Due.is("undo()", x.undo(), k);
            Due.is("person(0, 2)", x.person(0, 2), (75 + k) % 10);
        }
        Due.is("undo()", x.undo(), STATE);
    }

    @Says(promise = 12, text = "each can be undone, the latest first")
    static void actsOfEachSort() {
        LiftEnvy x = Due.housed(Due.TWO);
        x.show(1, 3);
        x.walk(0, 0);
        x.walk(0, 1);
        x.steps(1);
        Due.is("undo() of a STEP", x.undo(), 3);
        Due.is("car(0)", x.car(0), 0);
        Due.is("count(2)", x.count(2), 0);
        Due.is("undo() of a WALK", x.undo(), 2);
        Due.is("person(0, 0)", x.person(0, 0), 0);
        Due.is("undo() of a WALK", x.undo(), 1);
        Due.is("person(0, 0)", x.person(0, 0), 1);
        Due.is("person(1, 2)", x.person(1, 2), 3);
        Due.is("undo() of what one SHOWS", x.undo(), 0);
        Due.is("person(1, 2)", x.person(1, 2), 5);
        Due.is("car(2)", x.car(2), 1);
    }

    @Says(promise = 12, text = "STATE: none.")
    static void noActAtFirst() {
        Due.is("undo() without a house", new LiftEnvy().undo(), STATE);
        Due.is("undo() in a new house", Due.housed(Due.TWO).undo(), STATE);
    }

    @Says(promise = 12, text = "STATE: none.")
    static void noActIsLeft() {
        LiftEnvy x = Due.atStep(Due.TWO, 1);
        Due.is("undo()", x.undo(), 0);
        Due.is("undo() again", x.undo(), STATE);
        Due.is("count(5)", x.count(5), 0);
    }

    @Says(promise = 12, text = "The latest ACT is undone: how many can be undone yet.")
    static void refusedActsAreNone() {
        LiftEnvy x = Due.housed(Due.TWO);
        x.steps(25);
        x.show(0, 10);
        x.walk(0, 2);
        x.walk(2, 0);
        x.walk(1, 0);
        Due.is("walk(1, 0) below the house", x.walk(1, 0), STATE);
        Due.is("count(5)", x.count(5), 1);
        Due.is("undo()", x.undo(), 0);
        Due.is("person(1, 0)", x.person(1, 0), 1);
    }

    @Says(promise = 12, text = "The latest ACT is undone: how many can be undone yet.")
    static void gettingOnAndOffUndone() {
        LiftEnvy x = Due.atStep(Due.TWO, 4);
        x.undo();
        Due.is("car(3), getting off undone", x.car(3), 0);
        Due.is("car(1)", x.car(1), 1);
        x.undo();
        x.undo();
        Due.is("car(1), getting on undone", x.car(1), NONE);
        Due.is("car(2)", x.car(2), 1);
        Due.is("person(1, 4)", x.person(1, 4), 5);
    }

    // ---- promise 10

    @Says(promise = 10, text = "One SHOWS something else (0 to 9): what he did.")
    static void showLeastAndMost() {
        LiftEnvy x = Due.housed(Due.TWO);
        Due.is("show(1, 9)", x.show(1, 9), 5);
        Due.is("show(1, 0)", x.show(1, 0), 9);
        Due.is("show(1, 1)", x.show(1, 1), 0);
    }

    @Says(promise = 10, text = "One SHOWS something else (0 to 9)")
    static void showTooLittle() {
        LiftEnvy x = Due.housed(Due.TWO);
        Due.tooSmall("show(1, v)", v -> x.show(1, v), 0);
        Due.is("person(1, 2)", x.person(1, 2), 5);
        Due.is("count(5)", x.count(5), 0);
    }

    @Says(promise = 10, text = "One SHOWS something else (0 to 9)")
    static void showTooMuch() {
        LiftEnvy x = Due.housed(Due.TWO);
        Due.tooLarge("show(1, v)", v -> x.show(1, v), 9);
        Due.is("person(1, 2)", x.person(1, 2), 5);
        Due.is("count(5)", x.count(5), 0);
    }

    @Says(promise = 10, text = "what he did. BAD.")
    static void showOfNobody() {
        LiftEnvy x = Due.housed(Due.TWO);
        Due.tooSmall("show(v, 1)", v -> x.show(v, 1), 0);
        Due.tooLarge("show(v, 1)", v -> x.show(v, 1), 1);
        LiftEnvy six = Due.housed(Due.SIX);
        Due.is("show(5, 1)", six.show(5, 1), 0);
        Due.is("show(6, 1)", six.show(6, 1), BAD);
    }

    @Says(promise = 10, text = "What is refused, or found, changes nothing")
    static void showOfWhoRides() {
        LiftEnvy x = Due.atStep(Due.TWO, 2);
        Due.is("show(1, 0) of who rides", x.show(1, 0), 5);
        Due.is("steps(2)", x.steps(2), 0);
        Due.is("car(3)", x.car(3), 2);
        Due.is("show(1, 3) of who is BROUGHT", x.show(1, 3), 0);
    }

    // ---- promise 11

    @Says(promise = 11, text = "STATE: he rides, there is no such FLOOR.")
    static void walkAboveTop() {
        LiftEnvy x = Due.housed("f1,0;c0,0,0,0;");
        Due.is("walk(0, 1)", x.walk(0, 1), 1);
        Due.is("walk(0, 1) again", x.walk(0, 1), STATE);
        Due.is("person(0, 0)", x.person(0, 0), 1);
        Due.is("count(5)", x.count(5), 1);
    }

    @Says(promise = 11, text = "STATE: he rides, there is no such FLOOR.")
    static void walkAboveTheHighestTop() {
        LiftEnvy x = Due.housed("f9,0;c8,0,0,0;");
        Due.is("walk(0, 1)", x.walk(0, 1), 9);
        Due.is("walk(0, 1) again", x.walk(0, 1), STATE);
    }

    @Says(promise = 11, text = "STATE: he rides, there is no such FLOOR.")
    static void walkBelow0() {
        LiftEnvy x = Due.housed("f9,0;c1,0,0,0;");
        Due.is("walk(0, 0)", x.walk(0, 0), 0);
        Due.is("walk(0, 0) again", x.walk(0, 0), STATE);
        Due.is("person(0, 0)", x.person(0, 0), 0);
        Due.is("count(5)", x.count(5), 1);
    }

    @Says(promise = 11, text = "STATE: he rides, there is no such FLOOR.")
    static void walkOfWhoRides() {
        LiftEnvy x = Due.atStep(Due.TWO, 2);
        Due.each("walk(1, v)", v -> x.walk(1, v), STATE, 0, 1);
        Due.is("person(1, 0)", x.person(1, 0), 1);
        Due.is("count(5)", x.count(5), 2);
        Due.is("walk(0, 1) of who does not", x.walk(0, 1), 2);
    }

    @Says(promise = 11, text = "One WALKS up (1), or down (0): his FLOOR.")
    static void walkNowhere() {
        LiftEnvy x = Due.housed(Due.TWO);
        Due.tooSmall("walk(0, v)", v -> x.walk(0, v), 0);
        Due.tooLarge("walk(0, v)", v -> x.walk(0, v), 1);
        Due.is("person(0, 0)", x.person(0, 0), 1);
    }

    @Says(promise = 11, text = "One WALKS up (1), or down (0): his FLOOR.")
    static void walkOfNobody() {
        LiftEnvy x = Due.housed(Due.TWO);
        Due.tooSmall("walk(v, 0)", v -> x.walk(v, 0), 0);
        Due.tooLarge("walk(v, 0)", v -> x.walk(v, 0), 1);
    }

    @Says(promise = 11, text = "one who does not ride WALKS to the next FLOOR, up or down.")
    static void walkOfWhoIsBrought() {
        LiftEnvy x = Due.atStep(Due.TWO, 4);
        Due.is("walk(1, 1)", x.walk(1, 1), 1);
        Due.is("person(1, 5)", x.person(1, 5), 1);
        Due.is("person(1, 4)", x.person(1, 4), 5);
    }

    // ---- promise 13

    @Says(promise = 13, text = "0 FLOOR (of who rides where the car is)")
    static void floorOfWhoRides() {
        LiftEnvy x = Due.housed("f9,0;c3,9,0,0;c3,8,5,0;");
        x.steps(4);
        Due.is("car(1)", x.car(1), 1);
        for (int f = 3; f <= 8; f++) {
            Due.is("person(1, 0)", x.person(1, 0), f);
            Due.is("car(0)", x.car(0), f);
            x.steps(1);
        }
        Due.is("person(1, 0) behind it", x.person(1, 0), 8);
        Due.is("person(0, 0)", x.person(0, 0), 3);
    }

    @Says(promise = 13, text = "4 ENVY (who rides: 0)")
    static void envyWhileHeRidesPastOthers() {
        LiftEnvy x = Due.housed("f2,0;c0,2,0,0;c0,2,5,0;v1,0,0,0;");
        x.steps(2);
        Due.is("person(1, 0)", x.person(1, 0), 1);
        Due.is("person(1, 4)", x.person(1, 4), 0);
    }

    @Says(promise = 13, text = "5 whether he is BROUGHT (1, 0). BAD.")
    static void broughtOrNot() {
        LiftEnvy x = Due.atStep(Due.TWO, 3);
        Due.is("person(1, 5)", x.person(1, 5), 0);
        x.steps(1);
        Due.is("person(1, 5) then", x.person(1, 5), 1);
        Due.is("person(0, 5)", x.person(0, 5), 0);
    }

    @Says(promise = 13, text = "5 whether he is BROUGHT (1, 0). BAD.")
    static void personOfNothing() {
        LiftEnvy x = Due.housed(Due.TWO);
        Due.tooSmall("person(0, v)", v -> x.person(0, v), 0);
        Due.tooLarge("person(0, v)", v -> x.person(0, v), 5);
    }

    @Says(promise = 13, text = "5 whether he is BROUGHT (1, 0). BAD.")
    static void personThatIsNobody() {
        LiftEnvy x = Due.housed(Due.TWO);
        Due.tooSmall("person(v, 0)", v -> x.person(v, 0), 0);
        Due.tooLarge("person(v, 0)", v -> x.person(v, 0), 1);
        LiftEnvy six = Due.housed(Due.SIX);
        Due.is("person(5, 0)", six.person(5, 0), 5);
        Due.is("person(6, 0)", six.person(6, 0), BAD);
    }

    // ---- promise 15

    @Says(promise = 15, text = "1 who rides (NONE)")
    static void nobodyRides() {
        LiftEnvy x = Due.atStep(Due.TWO, 1);
        Due.is("car(1) ahead", x.car(1), NONE);
        x.steps(1);
        Due.is("car(1)", x.car(1), 1);
        x.steps(2);
        Due.is("car(1) behind", x.car(1), NONE);
    }

    @Says(promise = 15, text = "2 for whom it goes (NONE: nobody, somebody rides)")
    static void forNobody() {
        Due.is("car(2) in an empty house", Due.housed("f4,3;").car(2), NONE);
        Due.is("car(2) without ENVY", Due.housed("f4,3;c1,1,0,0;c1,1,0,0;").car(2), NONE);
        Due.is("car(2), all are BROUGHT who can be", Due.atStep(Due.TWO, 4).car(2), NONE);
    }

    @Says(promise = 15, text = "2 for whom it goes (NONE: nobody, somebody rides)")
    static void forNobodyWhileOneRides() {
        // another one is minded all the time
        LiftEnvy x = Due.housed("f3,0;c0,3,0,0;c0,3,5,0;c2,0,0,0;c2,0,4,0;");
        Due.is("car(2)", x.car(2), 1);
        x.steps(1);
        Due.is("car(2) while one rides", x.car(2), NONE);
        x.steps(3);
        Due.is("car(2) while he rides yet", x.car(2), NONE);
        x.steps(1);
        Due.is("car(2) behind it", x.car(2), 3);
    }

    @Says(promise = 15, text = "3 who is BROUGHT (bits). BAD;")
    static void allAreBrought() {
        LiftEnvy x = Due.housed("f1,0;e0,0,0,0;e0,0,0,0;e0,0,0,0;e0,0,0,0;e0,0,0,0;e0,0,0,0;");
        Due.is("car(3)", x.car(3), 0);
        x.steps(12);
        Due.is("car(3) then", x.car(3), 63);
        Due.is("car(2) then", x.car(2), NONE);
    }

    @Says(promise = 15, text = "3 who is BROUGHT (bits). BAD;")
    static void carOfNothing() {
        LiftEnvy x = Due.housed(Due.TWO);
        Due.tooSmall("car(v)", x::car, 0);
        Due.tooLarge("car(v)", x::car, 3);
    }

    @Says(promise = 15, text = "STATE: no HOUSE (ahead of BAD).")
    static void carWithoutAHouse() {
        LiftEnvy x = new LiftEnvy();
        Due.each("car(v)", x::car, STATE, 0, 1, 2, 3, -1, 4, Integer.MAX_VALUE, Integer.MIN_VALUE);
    }
}
