/** Promises 16 to 25: ahead, when, first, never, least, hide, beside, fits, hidden, drawn. */
public final class ForetoldTest {
    private static final int NONE = LiftEnvy.NONE, BAD = LiftEnvy.BAD, STATE = LiftEnvy.STATE;

    public static void main(String[] args) {
        nothingChanges();
        aheads();
        whens();
        firsts();
        nevers();
        leasts();
        hides();
        besides();
        fitting();
        fitsRefused();
        hiddenOnes();
        strays();
        nobody();
        Due.end();
    }

    private static void nothingChanges() {
        LiftEnvy x = Due.housed(Due.SIX);
        x.steps(5);
        x.row(0, 0, 16);
        foretellAll(x);
        Due.is("STEP", x.count(2), 5);
        Due.is("ACTS", x.count(5), 5);
        Due.is("car", x.car(0), 4);
        Due.is("rider", x.car(1), 2);
        Due.is("SHOWS", x.person(2, 2), 8);
        Due.is("KIND", x.kind(2), 3);
        Due.is("WANTS", x.person(2, 1), 7);
        Due.is("FLOOR", x.person(0, 0), 3);
        Due.is("steps(4)", x.steps(4), 7);
        Due.is("BROUGHT", x.car(3), 4);
    }

    private static void foretellAll(LiftEnvy x) {
        x.ahead(60, 0);
        x.first(0);
        x.never();
        x.hide(1);
        x.drawn(60, 77, 0);
        for (int p = 0; p < 6; p++) {
            x.when(p);
            x.least(p, 60);
            x.beside(p, 0);
            x.hidden(p, 60, 5, 0);
            for (int what = 0; what <= 2; what++) {
                x.fits(p, 0, 0, 16, what);
            }
        }
    }

    private static void aheads() {
        LiftEnvy x = Due.housed(Due.TWO);
        int[] cars = {0, 1, 1, 0, 0, 0};
        int[] riders = {NONE, NONE, 1, 1, NONE, NONE};
        int[] brought = {0, 0, 0, 0, 2, 2};
        for (int d = 0; d <= 5; d++) {
            Due.is("ahead(" + d + ", 0)", x.ahead(d, 0), cars[d]);
            Due.is("ahead(" + d + ", 1)", x.ahead(d, 1), riders[d]);
            Due.is("ahead(" + d + ", 2)", x.ahead(d, 2), brought[d]);
        }
        Due.is("ahead(60, 2)", x.ahead(60, 2), 2);
        Due.is("ahead(61, 0)", x.ahead(61, 0), BAD);
        Due.is("ahead(-1, 0)", x.ahead(-1, 0), BAD);
        Due.is("ahead(0, 3)", x.ahead(0, 3), BAD);
        Due.is("ahead(0, -1)", x.ahead(0, -1), BAD);
        for (int k = 0; k < 41; k++) {
            x.steps(24);
        }
        x.steps(15);
        Due.is("beyond STEP 999", x.ahead(60, 0), 0);
    }

    private static void whens() {
        LiftEnvy x = Due.housed(Due.TWO);
        Due.is("when(1)", x.when(1), 4);
        Due.is("when(0)", x.when(0), NONE);
        Due.is("when(2)", x.when(2), BAD);
        Due.is("when(-1)", x.when(-1), BAD);
        x.steps(3);
        Due.is("when(1) of who rides", x.when(1), 1);
        x.steps(1);
        Due.is("when(1) of who is BROUGHT", x.when(1), 0);
        Due.is("the sixth", Due.housed(LONG).when(5), NONE);
        Due.is("the fifth", Due.housed(LONG).when(4), 99);
        Due.is("the fifth, later", Due.housed(LATER).when(4), 99);
        Due.is("the fifth, too late", Due.housed(LATEST).when(4), NONE);
    }

    /** Four go from 9 to 0 in 20 STEPS each, the fifth to 1; who shows nothing is left there. */
    private static final String LONG =
        "f9,0;h9,0,5,1;c9,0,4,0;c9,0,3,0;c9,0,2,0;c9,1,1,0;c9,0,0,0;";
    /** All five go to 0, but the car begins a FLOOR nearer; then: it does not. */
    private static final String LATER =
        "f9,1;h9,0,5,1;c9,0,4,0;c9,0,3,0;c9,0,2,0;c9,0,1,0;c9,0,0,0;";
    private static final String LATEST =
        "f9,0;h9,0,5,1;c9,0,4,0;c9,0,3,0;c9,0,2,0;c9,0,1,0;c9,0,0,0;";

    private static void firsts() {
        LiftEnvy x = Due.housed(Due.TWO);
        Due.is("first(0)", x.first(0), 1);
        Due.is("first(1)", x.first(1), 4);
        Due.is("first(2)", x.first(2), BAD);
        Due.is("first(-1)", x.first(-1), BAD);
        x.steps(3);
        Due.is("first(0) of who rides", x.first(0), 1);
        Due.is("first(1) of who rides", x.first(1), 1);
        x.steps(1);
        Due.is("first(0) then", x.first(0), NONE);
        Due.is("first(1) then", x.first(1), NONE);
        x = Due.housed(Due.SIX);
        x.steps(9);
        Due.is("BROUGHT", x.car(3), 4);
        Due.is("the next one", x.first(0), 4);
        Due.is("behind", x.first(1), 5);
    }

    private static void nevers() {
        LiftEnvy x = Due.housed(Due.TWO);
        Due.is("never()", x.never(), 1);
        x.steps(4);
        Due.is("never() then", x.never(), 1);
        x.show(0, 9);
        Due.is("he is alone", x.never(), 1);
        x.walk(0, 0);
        Due.is("now he is not", x.never(), 0);
        Due.is("the sixth", Due.housed(LONG).never(), 32);
        Due.is("99 STEPS", Due.housed(LATER).never(), 32);
        Due.is("100 STEPS", Due.housed(LATEST).never(), 48);
    }

    private static void leasts() {
        LiftEnvy x = Due.housed(Due.TWO);
        Due.is("least(1, 4)", x.least(1, 4), 1);
        Due.is("least(1, 3)", x.least(1, 3), NONE);
        Due.is("least(1, 0)", x.least(1, 0), NONE);
        Due.is("least(0, 5)", x.least(0, 5), 6);
        Due.is("least(0, 4)", x.least(0, 4), NONE);
        Due.is("least(0, 60)", x.least(0, 60), 6);
        Due.is("least(0, 61)", x.least(0, 61), BAD);
        Due.is("least(0, -1)", x.least(0, -1), BAD);
        Due.is("least(2, 1)", x.least(2, 1), BAD);
        x.steps(2);
        Due.is("who rides", x.least(1, 2), 0);
        Due.is("who rides, too soon", x.least(1, 1), NONE);
        x.steps(2);
        Due.is("who is BROUGHT", x.least(1, 9), STATE);
        Due.is("BAD ahead of STATE", x.least(1, 61), BAD);
        x = Due.housed("f2,0;c0,1,9,0;c0,1,9,0;");
        Due.is("more than 9 is not to be had", x.least(0, 60), NONE);
        x = Due.housed("f2,0;e0,1,0,0;c0,1,0,0;");
        Due.is("nothing is enough beside an heir", x.least(1, 3), 0);
    }

    private static void hides() {
        LiftEnvy x = Due.housed(Due.TWO);
        Due.is("hide(0)", x.hide(0), 1);
        Due.is("hide(1)", x.hide(1), 0);
        Due.is("hide(2)", x.hide(2), BAD);
        Due.is("hide(-1)", x.hide(-1), BAD);
        x.steps(4);
        Due.is("hide(0), one is BROUGHT", x.hide(0), 1);
        Due.is("hide(1), one is BROUGHT", x.hide(1), 0);
        // the chief minds both, so he is the one who is left
        x = Due.housed("f3,0;c1,3,2,0;c1,0,5,0;h1,2,0,1;");
        Due.is("hide(0): both", x.hide(0), 2);
        Due.is("hide(1): nobody need hide", x.hide(1), 0);
        x = Due.housed("f3,0;c1,3,2,0;v1,1,5,0;");
        Due.is("hide(0): the vain one stays there", x.hide(0), 1);
        x = Due.housed("f3,0;c1,3,2,0;v1,0,5,0;");
        Due.is("hide(0): one of both", x.hide(0), 1);
        Due.is("hide(1): the nearer one, as it is", x.hide(1), 0);
        x = Due.housed("f3,0;c1,3,5,0;v1,0,2,0;");
        Due.is("hide(0): one of both", x.hide(0), 1);
        Due.is("hide(1): the farther one hides", x.hide(1), 1);
        hidesInTies();
    }

    private static void hidesInTies() {
        // 0 hides, so that 1 is BROUGHT instead of him, in 2 STEPS; 2 need not
        LiftEnvy x = Due.housed("f9,0;c0,3,5,0;c0,0,1,0;c9,9,4,0;");
        Due.is("fewest in the set", x.hide(1), 1);
        // 20 STEPS each: four are BROUGHT in 80; that a fifth is on his way then is as good
        x = Due.housed("f9,9;v0,9,0,0;e0,9,5,9;v0,9,3,0;v0,9,2,3;e0,9,7,3;c0,9,3,1;");
        Due.is("within 99", x.hide(0), 4);
        Due.is("the last who is BROUGHT", x.hide(1), 0);
        x = Due.housed("f1,0;c0,0,3,0;c0,0,3,0;");
        Due.is("one of two must hide: one is BROUGHT", x.hide(0), 1);
        Due.is("the least bits", x.hide(1), 1);
    }

    private static void besides() {
        LiftEnvy x = Due.housed(Due.TWO);
        Due.is("beside(0, 0)", x.beside(0, 0), NONE);
        Due.is("beside(0, 1)", x.beside(0, 1), NONE);
        Due.is("beside(1, 0)", x.beside(1, 0), 1);
        Due.is("beside(1, 1)", x.beside(1, 1), 4);
        Due.is("beside(1, 2)", x.beside(1, 2), BAD);
        Due.is("beside(1, -1)", x.beside(1, -1), BAD);
        Due.is("beside(2, 0)", x.beside(2, 0), BAD);
        x.steps(2);
        Due.is("who rides", x.beside(1, 0), STATE);
        Due.is("BAD ahead of STATE", x.beside(1, 2), BAD);
        x.steps(2);
        Due.is("who is BROUGHT", x.beside(1, 0), STATE);
        // to floor 1 the car goes 2 STEPS, to floor 5 as well; what he wants is as far from both
        x = Due.housed("f6,3;c1,3,0,0;c5,3,0,0;c0,3,4,0;");
        Due.is("of several the least", x.beside(2, 0), 1);
        Due.is("behind", x.beside(2, 1), 6);
    }

    private static void fitting() {
        LiftEnvy x = Due.housed(Due.TWO);
        x.row(0, 0, 5);
        int[] cars = {9, 1, 1, 0, 0};
        for (int i = 0; i < 5; i++) {
            x.set(0, i, cars[i]);
        }
        Due.is("the whole of it: KINDS of 1", x.fits(1, 0, 1, 4, 0), 62);
        Due.is("SHOWN of 1: anything", x.fits(1, 0, 1, 4, 1), 1022);
        Due.is("WANTED of 1: 0 alone", x.fits(1, 0, 1, 4, 2), 1);
        Due.is("KINDS of 0: who minds 1 by TEMPER 0 does not", x.fits(0, 0, 1, 4, 0), 14);
        Due.is("SHOWN of 0: less than 5", x.fits(0, 0, 1, 4, 1), 31);
        Due.is("WANTED of 0", x.fits(0, 0, 1, 4, 2), 15);
        Due.is("none fits", x.fits(0, 0, 0, 2, 0), 0);
        Due.is("a part", x.fits(1, 0, 1, 2, 2), 15);
        x.steps(2);
        Due.is("while 1 rides", x.fits(1, 0, 3, 2, 2), 1);
    }

    private static void fitsRefused() {
        LiftEnvy x = Due.housed(Due.TWO);
        x.row(0, 0, 20);
        Due.is("PERSON", x.fits(2, 0, 0, 1, 0), BAD);
        Due.is("ROW", x.fits(0, 8, 0, 1, 0), BAD);
        Due.is("ROW", x.fits(0, -1, 0, 1, 0), BAD);
        Due.is("n", x.fits(0, 0, 0, 0, 0), BAD);
        Due.is("n", x.fits(0, 0, 0, 17, 0), BAD);
        Due.is("what", x.fits(0, 0, 0, 1, 3), BAD);
        Due.is("what", x.fits(0, 0, 0, 1, -1), BAD);
        Due.is("BAD ahead of NULL", x.fits(0, 1, 0, 17, 0), BAD);
        Due.is("NULL", x.fits(0, 1, -1, 1, 0), -1000011);
        Due.is("PLACE", x.fits(0, 0, -1, 1, 0), -1000012);
        Due.is("PLACE", x.fits(0, 0, 20, 1, 0), -1000012);
        Due.is("PLACE", x.fits(0, 0, 5, 16, 0), -1000012);
        Due.is("PLACE", x.fits(0, 0, Integer.MAX_VALUE, 16, 0), -1000012);
        Due.is("the end", x.fits(0, 0, 4, 16, 0), 48);
    }

    private static void hiddenOnes() {
        LiftEnvy x = Due.housed(Due.TWO);
        isFraction(x, 1, 4, 3, 7, 10);
        isFraction(x, 1, 4, 5, 1, 2);
        isFraction(x, 1, 4, 0, 1, 1);
        isFraction(x, 1, 4, 10, 0, 1);
        isFraction(x, 1, 3, 3, 0, 1);
        isFraction(x, 0, 60, 3, 0, 1);
        x.show(0, 9);
        // 0 is brought if he does not hide (2/5); 1 if 0 hides and he does not (3/5 of 2/5)
        isFraction(x, 0, 60, 6, 2, 5);
        isFraction(x, 1, 60, 6, 6, 25);
        x.show(0, 0);
        x.steps(2);
        isFraction(x, 1, 2, 9, 1, 1);
        isFraction(x, 1, 1, 9, 0, 1);
        x.steps(2);
        isFraction(x, 1, 0, 9, 1, 1);
        Due.is("d", x.hidden(0, 61, 1, 0), BAD);
        Due.is("d", x.hidden(0, -1, 1, 0), BAD);
        Due.is("c", x.hidden(0, 1, 11, 0), BAD);
        Due.is("c", x.hidden(0, 1, -1, 0), BAD);
        Due.is("what", x.hidden(0, 1, 1, 2), BAD);
        Due.is("what", x.hidden(0, 1, 1, -1), BAD);
        Due.is("PERSON", x.hidden(2, 1, 1, 0), BAD);
        x = Due.housed("f1,0;c0,0,9,0;c0,0,8,0;c0,0,7,0;c0,0,6,0;c0,0,5,0;c0,0,4,0;");
        // the last one is first, if the five others hide and he does not
        isFraction(x, 5, 2, 1, 9, 1000000);
    }

    private static void isFraction(LiftEnvy x, int p, int d, int c, int above, int below) {
        String call = "hidden(" + p + ", " + d + ", " + c + ", ";
        Due.is(call + "0)", x.hidden(p, d, c, 0), above);
        Due.is(call + "1)", x.hidden(p, d, c, 1), below);
    }

    private static void strays() {
        LiftEnvy x = Due.housed(Due.TWO);
        Due.is("drawn(0, 1, 1)", x.drawn(0, 1, 1), 0);
        // 16807: 1 goes down, so nobody is minded; later 0 comes down too, and 1 is brought
        Due.is("drawn(1, 1, 1)", x.drawn(1, 1, 1), 0);
        Due.is("drawn(5, 1, 0)", x.drawn(5, 1, 0), 0);
        Due.is("drawn(6, 1, 0)", x.drawn(6, 1, 0), 1);
        // 33614: 0 stays (it leaves 2): the car comes nearer
        Due.is("drawn(1, 2, 1)", x.drawn(1, 2, 1), 1);
        Due.is("n", x.drawn(61, 1, 0), BAD);
        Due.is("n", x.drawn(-1, 1, 0), BAD);
        Due.is("seed", x.drawn(1, 0, 0), BAD);
        Due.is("seed", x.drawn(1, 1000000, 0), BAD);
        Due.is("the last seed", x.drawn(0, 999999, 0), 0);
        Due.is("what", x.drawn(1, 1, 2), BAD);
        Due.is("what", x.drawn(1, 1, -1), BAD);
        x.steps(4);
        Due.is("who is BROUGHT counts", x.drawn(0, 1, 0), 1);
    }

    private static void nobody() {
        LiftEnvy x = Due.housed("f4,2;");
        Due.is("ahead(60, 0)", x.ahead(60, 0), 2);
        Due.is("first(0)", x.first(0), NONE);
        Due.is("never()", x.never(), 0);
        Due.is("hide(0)", x.hide(0), 0);
        Due.is("hide(1)", x.hide(1), 0);
        Due.is("drawn(60, 3, 0)", x.drawn(60, 3, 0), 0);
        Due.is("drawn(60, 3, 1)", x.drawn(60, 3, 1), 2);
    }
}
