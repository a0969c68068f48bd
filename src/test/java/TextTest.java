/** Promises 6 to 8: feed, house, fault. */
public final class TextTest {
    public static void main(String[] args) {
        tape();
        houses();
        misplaced();
        wrongNumbers();
        noRoom();
        allStays();
        newHouse();
        Due.end();
    }

    private static void tape() {
        LiftEnvy x = new LiftEnvy();
        Due.is("feed(-1)", x.feed(-1), LiftEnvy.BAD);
        Due.is("feed(256)", x.feed(256), LiftEnvy.BAD);
        for (int k = 1; k <= 120; k++) {
            Due.is("feed " + k, x.feed(k == 1 ? 'f' : k == 2 ? 0 : 255), k);
        }
        Due.is("feed 121", x.feed(0), LiftEnvy.FULL);
        Due.is("BAD ahead of FULL", x.feed(256), LiftEnvy.BAD);
        Due.is("count(6)", x.count(6), 120);
        Due.is("house()", x.house(), -1000101);
        Due.is("count(6) then", x.count(6), 0);
        Due.is("feed then", x.feed(0), 1);
    }

    private static void houses() {
        LiftEnvy x = new LiftEnvy();
        Due.is("nobody", Due.told(x, "f1,0;"), 0);
        Due.is("TOP", x.count(3), 1);
        Due.is("six", Due.told(x, Due.SIX), 6);
        Due.is("TOP", x.count(3), 7);
        Due.is("figures with a 0 ahead", Due.told(x, "f09,09;h08,07,06,05;"), 1);
        Due.is("TOP", x.count(3), 9);
        Due.is("car", x.car(0), 9);
        Due.is("KIND", x.kind(0), 4);
        Due.is("FLOOR", x.person(0, 0), 8);
        Due.is("WANTS", x.person(0, 1), 7);
        Due.is("SHOWS", x.person(0, 2), 6);
        Due.is("TEMPER", x.person(0, 3), 5);
        Due.is("fault() before one", x.fault(), 0);
        Due.is("longest", Due.told(x, "f09,09;" + "e09,09,09,09;".repeat(6)), 6);
    }

    private static void refused(String text, int place, int fault) {
        LiftEnvy x = new LiftEnvy();
        Due.is("house() of " + text, Due.told(x, text), -1000100 - place);
        Due.is("fault() of " + text, x.fault(), fault);
        Due.is("count(6) of " + text, x.count(6), 0);
        Due.is("car(0) of " + text, x.car(0), LiftEnvy.STATE);
    }

    private static void misplaced() {
        refused("", 0, 1);
        refused("f", 1, 1);
        refused("f3", 2, 1);
        refused("f3,", 3, 1);
        refused("f3,1", 4, 1);
        refused("F3,1;", 0, 1);
        refused(" f3,1;", 0, 1);
        refused("f 3,1;", 1, 1);
        refused("ff3,1;", 1, 1);
        refused("f,1;", 1, 1);
        refused("f3;1;", 2, 1);
        refused("f3,1,", 4, 1);
        refused("f003,1;", 1, 1);
        refused("f3,0001;", 3, 1);
        refused("f3,1; ", 5, 1);
        refused("f3,1;f3,1;", 5, 1);
        refused("f3,1;7", 5, 1);
        refused("f3,1;700", 5, 1);
        refused("f3,1;;", 5, 1);
        refused("f3,1;c", 6, 1);
        refused("f3,1;C1,1,1,1;", 5, 1);
        refused("f3,1;cc1,1,1,1;", 6, 1);
        refused("f3,1;c1,1,1,1", 13, 1);
        refused("f3,1;c1,1,1;", 11, 1);
        refused("f3,1;c1,1,1,;", 12, 1);
        refused("f3,1;c1,1,1,1,1;", 13, 1);
        refused("f3,1;c1,1,100,1;", 10, 1);
        refused("f3,1;c1,1,1,1;c1,1,1,1;x", 23, 1);
        refused("f3,1;c1,1,1,-1;", 12, 1);
    }

    private static void wrongNumbers() {
        refused("f0", 1, 2);
        refused("f00,0;", 1, 2);
        refused("f10,0;", 1, 2);
        refused("f99,0;", 1, 2);
        refused("f3,4;", 3, 2);
        refused("f3,4", 3, 2);
        refused("f3,13;", 3, 2);
        refused("f3,1;c4,0,0,0;", 6, 2);
        refused("f3,1;c0,4,0,0;", 8, 2);
        refused("f3,1;c0,0,10,0;", 10, 2);
        refused("f3,1;c0,0,0,10;", 12, 2);
        refused("f3,1;c0,0,09,10;", 13, 2);
        refused("f3,1;c0,0,10,0 ;", 10, 2);
    }

    private static void noRoom() {
        String full = "f9,9;" + "m9,9,9,9;".repeat(6);
        Due.is("six", Due.told(new LiftEnvy(), full), 6);
        for (String sort : new String[] {"c", "v", "m", "h", "e"}) {
            refused(full + sort + "9,9,9,9;", 59, 3);
            refused(full + sort, 59, 3);
        }
        refused(full + "x9,9,9,9;", 59, 1);
        refused(full + "f", 59, 1);
        refused(full + "9", 59, 1);
    }

    private static void allStays() {
        LiftEnvy x = Due.housed(Due.TWO);
        x.steps(2);
        Due.is("house() with a fault", Due.told(x, "f9,9;c1,1,1,1;c1,1,1,10;"), -1000121);
        Due.is("fault()", x.fault(), 2);
        Due.is("people", x.count(1), 2);
        Due.is("STEP", x.count(2), 2);
        Due.is("TOP", x.count(3), 3);
        Due.is("car", x.car(0), 1);
        Due.is("rider", x.car(1), 1);
        Due.is("undo()", x.undo(), 1);
        Due.is("a good house", Due.told(x, "f9,9;"), 0);
        Due.is("fault() stays", x.fault(), 2);
    }

    private static void newHouse() {
        LiftEnvy x = Due.housed(Due.TWO);
        x.steps(5);
        Due.is("BROUGHT", x.car(3), 2);
        x.show(0, 9);
        Due.is("a new house", Due.told(x, Due.TWO), 2);
        Due.is("STEP", x.count(2), 0);
        Due.is("BROUGHT then", x.car(3), 0);
        Due.is("rider then", x.car(1), LiftEnvy.NONE);
        Due.is("SHOWS then", x.person(0, 2), 0);
        Due.is("ACTS then", x.count(5), 0);
        Due.is("undo() then", x.undo(), LiftEnvy.STATE);
        x.steps(2);
        Due.is("a new house while one rides", Due.told(x, "f1,1;"), 0);
        Due.is("nobody rides", x.car(1), LiftEnvy.NONE);
        Due.is("nobody is there", x.person(0, 0), LiftEnvy.BAD);
    }
}
