/** Counts answers that are not as due, and how the tests tell a house to an object. */
final class Due {
    /** Six people on two floors: the house of the shared tests. */
    static final String SIX =
        "f7,0;c3,6,5,2;v3,0,1,4;m3,7,8,1;h5,1,0,6;e5,6,3,2;c5,2,0,9;";
    /** Two clerks on floor 1; only the second shows anything. */
    static final String TWO = "f3,0;c1,3,0,0;c1,0,5,0;";

    private static int wrong = 0;

    private Due() {
    }

    static void is(String call, long got, long want) {
        if (got != want) {
            wrong++;
            System.out.println(call + " answered " + got + ", due is " + want);
        }
    }

    static void fail(String what) {
        wrong++;
        System.out.println(what);
    }

    static void end() {
        System.out.println(wrong == 0 ? "all is as due" : wrong + " are not as due");
        if (wrong != 0) {
            System.exit(1);
        }
    }

    static int told(LiftEnvy x, String text) {
        for (int k = 0; k < text.length(); k++) {
            x.feed(text.charAt(k));
        }
        return x.house();
    }

    static LiftEnvy housed(String text) {
        LiftEnvy x = new LiftEnvy();
        if (told(x, text) < 0) {
            fail("not a house: " + text);
        }
        return x;
    }
}
