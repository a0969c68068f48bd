import java.util.function.IntUnaryOperator;

/** Counts answers that are not as due, and how the tests tell a house to an object. */
final class Due {
    /** Six people on two floors: the house of the shared tests. */
    static final String SIX =
        "f7,0;c3,6,5,2;v3,0,1,4;m3,7,8,1;h5,1,0,6;e5,6,3,2;c5,2,0,9;";
    /** Two clerks on floor 1; only the second shows anything. */
    static final String TWO = "f3,0;c1,3,0,0;c1,0,5,0;";
    /** Numbers that no parameter takes, but the item of a row. */
    static final int[] FAR_BELOW = {-2, -1000, Integer.MIN_VALUE + 1, Integer.MIN_VALUE};
    static final int[] FAR_ABOVE = {1000000, Integer.MAX_VALUE - 1, Integer.MAX_VALUE};

    private static int wrong = 0;
    private static String about = "";

    private Due() {
    }

    /** What the answers that follow are about: it is told with each one that is wrong. */
    static void about(String what) {
        about = what + ": ";
    }

    static void is(String call, long got, long want) {
        if (got != want) {
            wrong++;
            System.out.println(about + call + " answered " + got + ", due is " + want);
        }
    }

    /** The same answer is due for each of these numbers; v in the call's text is the number. */
    static void each(String call, IntUnaryOperator answer, int due, int... numbers) {
        for (int v : numbers) {
            is(call + " with v = " + v, answer.applyAsInt(v), due);
        }
    }

    /** BAD is due for a number that is one too small, and for such as are far too small. */
    static void tooSmall(String call, IntUnaryOperator answer, int least) {
        each(call, answer, LiftEnvy.BAD, least - 1);
        each(call, answer, LiftEnvy.BAD, FAR_BELOW);
    }

    /** BAD is due for a number that is one too large, and for such as are far too large. */
    static void tooLarge(String call, IntUnaryOperator answer, int most) {
        each(call, answer, LiftEnvy.BAD, most + 1);
        each(call, answer, LiftEnvy.BAD, FAR_ABOVE);
    }

    static void fail(String what) {
        wrong++;
        System.out.println(about + what);
    }

    static void end() {
        System.out.println(wrong == 0 ? "all is as due" : wrong + " are not as due");
        if (wrong != 0) {
            System.exit(1);
        }
    }

    static int told(LiftEnvy x, String text) {
        for (int k = 0; k < text.length(); k++) {
            x.feed(text.charAt(k));
        }
        return x.house();
    }

    static LiftEnvy housed(String text) {
        LiftEnvy x = new LiftEnvy();
        if (told(x, text) < 0) {
            fail("not a house: " + text);
        }
        return x;
    }

    /** At this STEP, or as near below it as a house can be; each call takes 24 of them at most. */
    static LiftEnvy atStep(String text, int step) {
        LiftEnvy x = housed(text);
        for (int left = step; left > 0; left -= 24) {
            x.steps(Math.min(left, 24));
        }
        return x;
    }
}
