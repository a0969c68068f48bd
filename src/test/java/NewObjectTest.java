/** Promise 1, and what every call answers while there is no HOUSE. */
public final class NewObjectTest {
    public static void main(String[] args) {
        LiftEnvy x = new LiftEnvy();
        for (int what = 0; what <= 6; what++) {
            Due.is("count(" + what + ")", x.count(what), 0);
        }
        Due.is("status()", x.status(), 0);
        Due.is("fault()", x.fault(), 0);
        Due.is("trace(0)", x.trace(0), LiftEnvy.NONE);
        stateAheadOfBad(x);
        badOfPeople(x);
        Due.is("never()", x.never(), LiftEnvy.STATE);
        Due.is("undo()", x.undo(), LiftEnvy.STATE);
        Due.is("image(1)", x.image(1), LiftEnvy.STATE);
        Due.is("image(-1)", x.image(-1), LiftEnvy.BAD);
        Due.is("restore(1)", x.restore(1), LiftEnvy.STATE);
        Due.is("restore(2)", x.restore(2), LiftEnvy.BAD);
        twoObjects();
        Due.end();
    }

    private static void stateAheadOfBad(LiftEnvy x) {
        Due.is("steps(0)", x.steps(0), LiftEnvy.STATE);
        Due.is("car(9)", x.car(9), LiftEnvy.STATE);
        Due.is("ahead(-1, 5)", x.ahead(-1, 5), LiftEnvy.STATE);
        Due.is("first(2)", x.first(2), LiftEnvy.STATE);
        Due.is("hide(2)", x.hide(2), LiftEnvy.STATE);
        Due.is("drawn(61, 0, 2)", x.drawn(61, 0, 2), LiftEnvy.STATE);
    }

    private static void badOfPeople(LiftEnvy x) {
        Due.is("show(0, 1)", x.show(0, 1), LiftEnvy.BAD);
        Due.is("walk(0, 0)", x.walk(0, 0), LiftEnvy.BAD);
        Due.is("person(0, 1)", x.person(0, 1), LiftEnvy.BAD);
        Due.is("minds(1, 0)", x.minds(1, 0), LiftEnvy.BAD);
        Due.is("when(0)", x.when(0), LiftEnvy.BAD);
        Due.is("least(0, 1)", x.least(0, 1), LiftEnvy.BAD);
        Due.is("beside(0, 1)", x.beside(0, 1), LiftEnvy.BAD);
        Due.is("hidden(0, 1, 1, 1)", x.hidden(0, 1, 1, 1), LiftEnvy.BAD);
        Due.is("kind(0)", x.kind(0), LiftEnvy.BAD);
        Due.is("as(0, 0)", x.as(0, 0), LiftEnvy.BAD);
        Due.is("ask(0, 1)", x.ask(0, 1), LiftEnvy.BAD);
        x.row(0, 0, 1);
        Due.is("fits(0, 0, 0, 1, 0)", x.fits(0, 0, 0, 1, 0), LiftEnvy.BAD);
        x.drop(0);
    }

    private static void twoObjects() {
        LiftEnvy one = Due.housed(Due.SIX);
        LiftEnvy other = new LiftEnvy();
        one.row(0, 0, 3);
        Due.is("count(1) of another object", other.count(1), 0);
        Due.is("count(0) of another object", other.count(0), 0);
    }
}
