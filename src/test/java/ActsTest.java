/** Promises 9 to 15: steps, show, walk, undo, person, minds, car. */
public final class ActsTest {
    private static final int NONE = LiftEnvy.NONE, BAD = LiftEnvy.BAD, STATE = LiftEnvy.STATE;

    public static void main(String[] args) {
        aRide();
        ties();
        broughtOnesMind();
        stepsRefused();
        shows();
        walks();
        undone();
        forgotten();
        people();
        minding();
        cars();
        Due.end();
    }

    private static void aRide() {
        LiftEnvy x = Due.housed(Due.TWO);
        Due.is("for whom at first", x.car(2), 1);
        Due.is("to his floor", x.steps(1), 1);
        Due.is("for whom", x.car(2), 1);
        Due.is("he gets on", x.steps(1), 1);
        Due.is("who rides", x.car(1), 1);
        Due.is("for whom, while one rides", x.car(2), NONE);
        Due.is("ENVY of who rides", x.person(1, 4), 0);
        Due.is("what he wants", x.steps(1), 0);
        Due.is("FLOOR of who rides", x.person(1, 0), 0);
        Due.is("not yet BROUGHT", x.person(1, 5), 0);
        Due.is("he gets off", x.steps(1), 0);
        Due.is("BROUGHT", x.person(1, 5), 1);
        Due.is("his FLOOR", x.person(1, 0), 0);
        Due.is("BROUGHT", x.car(3), 2);
        Due.is("nobody rides", x.car(1), NONE);
        Due.is("for nobody", x.car(2), NONE);
        Due.is("it stays", x.steps(20), 0);
        Due.is("STEP", x.count(2), 24);
        Due.is("how many are BROUGHT", x.count(4), 1);
    }

    private static void ties() {
        LiftEnvy x = Due.housed("f9,5;h1,2,3,4;h1,9,3,4;h8,1,1,4;h8,1,1,4;");
        Due.is("of several the first", x.car(2), 0);
        x = Due.housed("f9,5;h1,2,3,4;h1,9,3,4;h8,1,1,5;h8,1,1,4;");
        Due.is("most ENVY", x.car(2), 3);
        x = Due.housed("f9,5;h1,2,0,4;h1,9,0,4;");
        Due.is("1 at least", x.car(2), NONE);
        Due.is("it stays", x.steps(3), 5);
        x = Due.housed("f9,5;c5,5,0,0;c5,5,1,0;");
        Due.is("he is where he wants to be, but gets on", x.steps(1), 5);
        Due.is("rides", x.car(1), 1);
        Due.is("gets off", x.steps(1), 5);
        Due.is("is BROUGHT", x.car(3), 2);
    }

    /** One who is BROUGHT minds and is minded, but the lift is not for him. */
    private static void broughtOnesMind() {
        LiftEnvy x = Due.housed("f2,1;c1,0,0,0;v1,1,9,0;c0,2,5,0;c0,2,0,0;");
        x.steps(2);
        Due.is("the vain one is BROUGHT", x.car(3), 2);
        Due.is("he is minded yet", x.person(1, 4), 9);
        Due.is("the lift is for another one", x.car(2), 2);
        x.show(1, 0);
        x.show(0, 9);
        Due.is("he minds yet", x.person(0, 4), 18);
        Due.is("so it goes for whom he minds", x.car(2), 0);
    }

    private static void stepsRefused() {
        LiftEnvy x = Due.housed(Due.TWO);
        Due.is("steps(0)", x.steps(0), BAD);
        Due.is("steps(25)", x.steps(25), BAD);
        Due.is("steps(-1)", x.steps(-1), BAD);
        for (int k = 0; k < 41; k++) {
            x.steps(24);
        }
        Due.is("STEP", x.count(2), 984);
        Due.is("beyond 999", x.steps(16), LiftEnvy.FULL);
        Due.is("BAD ahead of FULL", x.steps(25), BAD);
        Due.is("STEP stays", x.count(2), 984);
        Due.is("to 999", x.steps(15), 0);
        Due.is("STEP", x.count(2), 999);
        Due.is("one more", x.steps(1), LiftEnvy.FULL);
        Due.is("undo()", x.undo(), 23);
        Due.is("STEP", x.count(2), 998);
        Due.is("steps(1)", x.steps(1), 0);
    }

    private static void shows() {
        LiftEnvy x = Due.housed(Due.TWO);
        Due.is("show(1, 9)", x.show(1, 9), 5);
        Due.is("SHOWS", x.person(1, 2), 9);
        Due.is("ENVY", x.person(1, 4), 9);
        Due.is("show(1, 0)", x.show(1, 0), 9);
        Due.is("for whom", x.car(2), NONE);
        Due.is("show(0, 1)", x.show(0, 1), 0);
        Due.is("for whom", x.car(2), 0);
        Due.is("show(0, 10)", x.show(0, 10), BAD);
        Due.is("show(0, -1)", x.show(0, -1), BAD);
        Due.is("show(2, 1)", x.show(2, 1), BAD);
        Due.is("show(-1, 1)", x.show(-1, 1), BAD);
        Due.is("ACTS", x.count(5), 3);
        Due.is("STEP", x.count(2), 0);
        x.steps(2);
        Due.is("who rides may show", x.show(0, 7), 1);
        Due.is("the same again", x.show(0, 7), 7);
        Due.is("is an ACT as well", x.count(5), 7);
    }

    private static void walks() {
        LiftEnvy x = Due.housed(Due.TWO);
        Due.is("walk(0, 1)", x.walk(0, 1), 2);
        Due.is("for whom", x.car(2), NONE);
        Due.is("walk(0, 1)", x.walk(0, 1), 3);
        Due.is("above TOP", x.walk(0, 1), STATE);
        Due.is("walk(0, 0)", x.walk(0, 0), 2);
        Due.is("walk(1, 0)", x.walk(1, 0), 0);
        Due.is("below 0", x.walk(1, 0), STATE);
        Due.is("walk(0, 2)", x.walk(0, 2), BAD);
        Due.is("walk(0, -1)", x.walk(0, -1), BAD);
        Due.is("walk(2, 0)", x.walk(2, 0), BAD);
        Due.is("ACTS", x.count(5), 4);
        Due.is("walk(1, 1)", x.walk(1, 1), 1);
        Due.is("walk(1, 1)", x.walk(1, 1), 2);
        Due.is("for whom", x.car(2), 1);
        x.steps(3);
        Due.is("who rides", x.walk(1, 0), STATE);
        Due.is("BAD ahead of STATE", x.walk(1, 7), BAD);
        x.steps(3);
        Due.is("who is BROUGHT", x.walk(1, 1), 1);
        Due.is("is so yet", x.person(1, 5), 1);
    }

    private static void undone() {
        LiftEnvy x = Due.housed(Due.TWO);
        Due.is("none", x.undo(), STATE);
        x.steps(1);
        x.show(0, 3);
        x.walk(0, 1);
        x.steps(3);
        Due.is("ACTS", x.count(5), 6);
        Due.is("STEP", x.count(2), 4);
        x.undo();
        x.undo();
        x.undo();
        Due.is("STEP", x.count(2), 1);
        Due.is("car", x.car(0), 1);
        Due.is("nobody rides", x.car(1), NONE);
        Due.is("walk undone", x.undo(), 2);
        Due.is("FLOOR", x.person(0, 0), 1);
        Due.is("STEP is the same", x.count(2), 1);
        Due.is("show undone", x.undo(), 1);
        Due.is("SHOWS", x.person(0, 2), 0);
        Due.is("step undone", x.undo(), 0);
        Due.is("car", x.car(0), 0);
        Due.is("none then", x.undo(), STATE);
        x.steps(4);
        Due.is("BROUGHT", x.car(3), 2);
        Due.is("getting off undone", x.undo(), 3);
        Due.is("rides", x.car(1), 1);
        Due.is("not BROUGHT", x.car(3), 0);
        x.undo();
        Due.is("FLOOR of who rides", x.person(1, 0), 1);
        x.undo();
        Due.is("getting on undone", x.car(1), NONE);
        Due.is("his FLOOR", x.person(1, 0), 1);
        Due.is("his ENVY", x.person(1, 4), 5);
        Due.is("again as ahead", x.steps(3), 0);
        Due.is("BROUGHT", x.car(3), 2);
    }

    private static void forgotten() {
        LiftEnvy x = Due.housed(Due.TWO);
        for (int k = 0; k < 30; k++) {
            x.show(1, k % 10);
        }
        Due.is("ACTS", x.count(5), 24);
        for (int k = 23; k >= 0; k--) {
            Due.is("undo()", x.undo(), k);
        }
        Due.is("none more", x.undo(), STATE);
        Due.is("SHOWS", x.person(1, 2), 5);
        Due.is("ACTS", x.count(5), 0);
        x.show(1, 8);
        Due.is("one again", x.count(5), 1);
        x.undo();
        Due.is("SHOWS", x.person(1, 2), 5);
    }

    private static void people() {
        LiftEnvy x = Due.housed("f7,2;m1,2,3,4;h1,5,6,7;");
        Due.is("person(0, 0)", x.person(0, 0), 1);
        Due.is("person(0, 1)", x.person(0, 1), 2);
        Due.is("person(0, 2)", x.person(0, 2), 3);
        Due.is("person(0, 3)", x.person(0, 3), 4);
        Due.is("person(0, 4)", x.person(0, 4), 7);
        Due.is("person(1, 4)", x.person(1, 4), 0);
        Due.is("person(1, 3)", x.person(1, 3), 7);
        Due.is("person(0, 6)", x.person(0, 6), BAD);
        Due.is("person(0, -1)", x.person(0, -1), BAD);
        Due.is("person(2, 0)", x.person(2, 0), BAD);
        Due.is("person(-1, 0)", x.person(-1, 0), BAD);
        x.steps(2);
        Due.is("who rides is not minded", x.person(0, 4), 0);
        Due.is("nor does he mind", x.person(1, 4), 0);
    }

    private static void minding() {
        LiftEnvy x = Due.housed("f7,2;c1,1,3,9;v1,2,3,9;m1,3,3,2;h1,4,3,7;e1,5,3,6;c2,5,8,0;");
        int[] of8 = {5, 10, 3, 7, 9};
        for (int p = 0; p < 5; p++) {
            Due.is("minds(" + p + ", 5)", x.minds(p, 5), of8[p]);
        }
        x.show(5, 4);
        int[] of4 = {1, 2, 0, 7, 9};
        for (int p = 0; p < 5; p++) {
            Due.is("minds(" + p + ", 5) of 4", x.minds(p, 5), of4[p]);
        }
        x.show(5, 0);
        int[] of0 = {0, 0, 0, 0, 9};
        for (int p = 0; p < 5; p++) {
            Due.is("minds(" + p + ", 5) of 0", x.minds(p, 5), of0[p]);
        }
        Due.is("an heir as a chief", x.minds(4, 0), 6);
        x.show(0, 0);
        Due.is("an heir as a chief, of nothing", x.minds(4, 0), 0);
        Due.is("the other way", x.minds(5, 4), 3);
        Due.is("alike", x.minds(3, 3), BAD);
        Due.is("minds(6, 0)", x.minds(6, 0), BAD);
        Due.is("minds(0, 6)", x.minds(0, 6), BAD);
        Due.is("minds(-1, 0)", x.minds(-1, 0), BAD);
        Due.is("minds(0, -1)", x.minds(0, -1), BAD);
        x = Due.housed(Due.TWO);
        x.steps(2);
        Due.is("of who rides, were he there", x.minds(0, 1), 5);
    }

    private static void cars() {
        LiftEnvy x = Due.housed("f4,3;");
        Due.is("car(0)", x.car(0), 3);
        Due.is("car(1)", x.car(1), NONE);
        Due.is("car(2)", x.car(2), NONE);
        Due.is("car(3)", x.car(3), 0);
        Due.is("car(4)", x.car(4), BAD);
        Due.is("car(-1)", x.car(-1), BAD);
        Due.is("steps(24)", x.steps(24), 3);
    }
}
