/**
 * All that can be seen of an object, told in a text, so that two objects can be held against one
 * another. To look is to use it up: acts are undone, rows dropped, images restored.
 */
final class Looks {
    private final StringBuilder seen = new StringBuilder();
    private final LiftEnvy x;

    private Looks(LiftEnvy x) {
        this.x = x;
    }

    static String at(LiftEnvy x) {
        Looks looks = new Looks(x);
        looks.numbers();
        looks.people();
        looks.rows();
        looks.acts();
        looks.images();
        looks.tape();
        return looks.seen.toString();
    }

    private void tell(String what, int number) {
        seen.append(what).append(' ').append(number).append('\n');
    }

    private void numbers() {
        for (int what = 0; what <= 6; what++) {
            tell("count " + what, x.count(what));
        }
        for (int i = 0; i < 7; i++) {
            tell("trace " + i, x.trace(i));
        }
        tell("fault", x.fault());
    }

    private void people() {
        lift();
        for (int p = 0; p < 6; p++) {
            for (int what = 0; what <= 5; what++) {
                tell("person " + p + " " + what, x.person(p, what));
            }
            tell("kind " + p, x.kind(p));
        }
    }

    private void lift() {
        for (int what = 0; what <= 3; what++) {
            tell("car " + what, x.car(what));
        }
        tell("step", x.count(2));
    }

    /** Items are seen by how long a part of the row the car goes along with. */
    private void rows() {
        for (int r = 0; r <= 7; r++) {
            for (int n = 1; n <= 6; n++) {
                tell("fits " + r + " " + n, x.fits(0, r, 0, n, 2));
            }
            tell("lane " + r, x.set(r, 0, 1 << 30 | 1 << 14 | 1));
            tell("length " + r, x.drop(r));
        }
    }

    private void acts() {
        for (int k = 0; k < 25; k++) {
            tell("undo", x.undo());
            tell("car", x.car(0));
            tell("step", x.count(2));
            tell("shows", x.person(0, 2));
            tell("floor", x.person(0, 0));
        }
    }

    private void images() {
        for (int k = 0; k <= 1; k++) {
            tell("restore " + k, x.restore(k));
            lift();
            tell("people", x.count(1));
        }
    }

    private void tape() {
        tell("feed", x.feed(';'));
        tell("house", x.house());
        tell("fault", x.fault());
        lift();
    }
}
