/** Promises 26 to 33: image, restore, kind, as, ask, trace, count, status. */
public final class AskedTest {
    private static final int NONE = LiftEnvy.NONE, BAD = LiftEnvy.BAD, STATE = LiftEnvy.STATE;
    /** One of each KIND on floor 1; of the last one, a chief, each of them minds something. */
    private static final String ALL = "f9,0;c1,2,3,0;v1,3,4,0;m1,4,5,1;h1,5,6,7;e1,6,7,8;h1,7,9,0;";

    public static void main(String[] args) {
        images();
        imagesOutliveHouses();
        kinds();
        casts();
        asks();
        traces();
        counts();
        Due.end();
    }

    private static void images() {
        LiftEnvy x = Due.housed(Due.TWO);
        Due.is("restore(0), none was kept", x.restore(0), STATE);
        Due.is("restore(-1)", x.restore(-1), BAD);
        Due.is("image(2)", x.image(2), BAD);
        x.steps(2);
        Due.is("image(0)", x.image(0), 1);
        Due.is("ACTS stay", x.count(5), 2);
        Due.is("restore(1), none was kept", x.restore(1), STATE);
        x.steps(2);
        x.show(0, 4);
        x.walk(0, 1);
        Due.is("image(1)", x.image(1), 1);
        Due.is("restore(0)", x.restore(0), 1);
        Due.is("STEP", x.count(2), 2);
        Due.is("rider", x.car(1), 1);
        Due.is("car", x.car(0), 1);
        Due.is("BROUGHT", x.car(3), 0);
        Due.is("SHOWS", x.person(0, 2), 0);
        Due.is("FLOOR", x.person(0, 0), 1);
        Due.is("ACTS", x.count(5), 0);
        Due.is("undo()", x.undo(), STATE);
        x.steps(2);
        Due.is("restore(0) again", x.restore(0), 1);
        Due.is("it is as kept", x.count(2), 2);
        Due.is("restore(1)", x.restore(1), 1);
        Due.is("SHOWS", x.person(0, 2), 4);
        Due.is("FLOOR", x.person(0, 0), 2);
        Due.is("BROUGHT", x.car(3), 2);
        Due.is("STEP", x.count(2), 4);
    }

    private static void imagesOutliveHouses() {
        LiftEnvy x = Due.housed(Due.TWO);
        x.image(1);
        Due.told(x, ALL);
        x.row(0, 0, 2);
        Due.is("people", x.count(1), 6);
        Due.is("restore(1)", x.restore(1), 1);
        Due.is("people", x.count(1), 2);
        Due.is("TOP", x.count(3), 3);
        Due.is("KIND", x.kind(1), 1);
        Due.is("WANTS", x.person(0, 1), 3);
        Due.is("rows stay", x.count(0), 1);
        Due.told(x, ALL);
        Due.is("image(1) anew", x.image(1), 1);
        Due.told(x, Due.TWO);
        x.restore(1);
        Due.is("people", x.count(1), 6);
        Due.is("KIND", x.kind(4), 5);
        Due.is("TEMPER", x.person(4, 3), 8);
    }

    private static void kinds() {
        LiftEnvy x = Due.housed(ALL);
        for (int p = 0; p < 5; p++) {
            Due.is("kind(" + p + ")", x.kind(p), p + 1);
        }
        Due.is("kind(5)", x.kind(5), 4);
        Due.is("kind(6)", x.kind(6), BAD);
        Due.is("kind(-1)", x.kind(-1), BAD);
    }

    private static void casts() {
        LiftEnvy x = Due.housed(ALL);
        int[] kindsOf = {0b000011, 0b000111, 0b001011, 0b010001, 0b110001};
        for (int p = 0; p < 5; p++) {
            for (int kind = 0; kind <= 5; kind++) {
                boolean is = (kindsOf[p] >> kind & 1) != 0;
                Due.is("as(" + p + ", " + kind + ")", x.as(p, kind), is ? p : -1000013);
                Due.is("status()", x.status(), is ? 0 : 3);
            }
        }
        Due.is("as(2, 2)", x.as(2, 2), -1000013);
        Due.is("as(0, 6)", x.as(0, 6), BAD);
        Due.is("as(0, -1)", x.as(0, -1), BAD);
        Due.is("as(6, 0)", x.as(6, 0), BAD);
        Due.is("as(-1, 0)", x.as(-1, 0), BAD);
        Due.is("status() behind BAD", x.status(), 3);
    }

    private static void asks() {
        LiftEnvy x = Due.housed(ALL);
        int[] envies = new int[6];
        for (int p = 0; p < 6; p++) {
            envies[p] = x.person(p, 4);
        }
        Due.is("ENVY of 0", envies[0], 7 + 8);
        Due.is("ENVY of 1", envies[1], 1 + 7 + 8);
        isAsk(x, 0, 0, 2 + 0 + envies[0], 11, 10, 21, 20);
        isAsk(x, 0, 1, 0 + envies[0], 21, 20);
        isAsk(x, 1, 0, -(3 + 2 * (1 + envies[1])), 12, 11, 10, 24, 21, 20);
        isAsk(x, 1, 1, 2 * (1 + envies[1]), 24, 21, 20);
        isAsk(x, 2, 0, 4 + 2 + envies[2] - 1000, 11, 10, 22, 21, 20);
        isAsk(x, 2, 1, 2 + envies[2] - 1000, 22, 21, 20);
        isAsk(x, 3, 0, 5 - 100, 13, 10);
        isAsk(x, 3, 1, 3 - (5 - 100), 23, 20, 13, 10);
        isAsk(x, 4, 0, 2 * (6 - 100), 14, 13, 10);
        isAsk(x, 4, 1, 4 - 2 * (6 - 100), 23, 20, 14, 13, 10);
        Due.is("ask(0, 2)", x.ask(0, 2), BAD);
        Due.is("ask(0, -1)", x.ask(0, -1), BAD);
        Due.is("ask(6, 0)", x.ask(6, 0), BAD);
        Due.is("ask(-1, 0)", x.ask(-1, 0), BAD);
        LiftEnvy y = Due.housed(Due.TWO);
        y.steps(2);
        Due.is("MARK of a clerk who rides", y.ask(1, 1), 1);
    }

    private static void isAsk(LiftEnvy x, int p, int what, int answer, int... bodies) {
        String call = "ask(" + p + ", " + what + ")";
        Due.is(call, x.ask(p, what), answer);
        for (int i = 0; i < bodies.length; i++) {
            Due.is("trace(" + i + ") of " + call, x.trace(i), bodies[i]);
        }
        Due.is("the end of the trace of " + call, x.trace(bodies.length), NONE);
    }

    private static void traces() {
        LiftEnvy x = Due.housed(ALL);
        x.ask(1, 0);
        Due.is("trace(-1)", x.trace(-1), NONE);
        Due.is("trace(16)", x.trace(16), NONE);
        Due.is("trace(MAX)", x.trace(Integer.MAX_VALUE), NONE);
        Due.is("trace(MIN)", x.trace(Integer.MIN_VALUE), NONE);
        x.ask(6, 0);
        Due.is("BAD leaves the trace", x.trace(0), 12);
        Due.told(x, Due.TWO);
        Due.is("a new house leaves the trace", x.trace(5), 20);
        x.ask(0, 1);
        Due.is("a new ask does not", x.trace(2), NONE);
    }

    private static void counts() {
        LiftEnvy x = Due.housed(Due.SIX);
        x.row(1, 0, 0);
        x.row(5, 1, 9);
        x.steps(22);
        x.show(0, 1);
        x.feed(1);
        x.feed(1);
        x.feed(1);
        int[] counts = {2, 6, 22, 7, 3, 23, 3};
        for (int what = 0; what <= 6; what++) {
            Due.is("count(" + what + ")", x.count(what), counts[what]);
        }
        Due.is("count(7)", x.count(7), BAD);
        Due.is("count(-1)", x.count(-1), BAD);
    }
}
