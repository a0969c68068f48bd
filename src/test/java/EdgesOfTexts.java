/** Boundary cases of part 1, TEXTS and FAULTS, and of the promises 1 and 6 to 8. */
final class EdgesOfTexts {
    private static final int STATE = LiftEnvy.STATE, BAD = LiftEnvy.BAD, NONE = LiftEnvy.NONE;
    private static final int FAULTS = -1000100;
    /** Six people: 5 bytes of law, then 9 of each of them. */
    private static final String FULL_HOUSE = "f9,9;" + "m9,9,9,9;".repeat(6);

    private EdgesOfTexts() {
    }

    private static LiftEnvy fed(int bytes) {
        LiftEnvy x = new LiftEnvy();
        for (int k = 0; k < bytes; k++) {
            x.feed('f');
        }
        return x;
    }

    private static void isFault(String text, int place, int fault) {
        LiftEnvy x = new LiftEnvy();
        Due.is("house() of " + text, Due.told(x, text), FAULTS - place);
        Due.is("fault() of " + text, x.fault(), fault);
    }

    private static void isHouse(String text, int people) {
        LiftEnvy x = new LiftEnvy();
        Due.is("house() of " + text, Due.told(x, text), people);
        Due.is("fault() of " + text, x.fault(), 0);
    }

    /** Of all 256 bytes, put between these, only those in the list stand there rightly. */
    private static void onlyThese(String right, String ahead, String behind, int people) {
        for (int b = 0; b <= 255; b++) {
            String text = ahead + (char) b + behind;
            if (right.indexOf(b) >= 0) {
                isHouse(text, people);
            } else {
                isFault(text, ahead.length(), 1);
            }
        }
    }

    // ---- promise 1

    @Says(promise = 1, text = "`LiftEnvy()`: No HOUSE.")
    static void nothingIsThereAtFirst() {
        LiftEnvy x = new LiftEnvy();
        Due.each("count(v)", x::count, 0, 0, 1, 2, 3, 4, 5, 6);
    }

    @Says(promise = 1, text = "`LiftEnvy()`: No HOUSE.")
    static void noHouseAtFirst() {
        LiftEnvy x = new LiftEnvy();
        Due.is("steps(1)", x.steps(1), STATE);
        Due.each("car(v)", x::car, STATE, 0, 1, 2, 3);
        Due.each("ahead(0, v)", v -> x.ahead(0, v), STATE, 0, 1, 2);
        Due.each("first(v)", x::first, STATE, 0, 1);
        Due.is("never()", x.never(), STATE);
        Due.each("hide(v)", x::hide, STATE, 0, 1);
        Due.each("drawn(0, 1, v)", v -> x.drawn(0, 1, v), STATE, 0, 1);
        Due.each("image(v)", x::image, STATE, 0, 1);
    }

    @Says(promise = 1, text = "`LiftEnvy()`: No HOUSE.")
    static void nobodyIsThereAtFirst() {
        LiftEnvy x = new LiftEnvy();
        x.row(0, 0, 1);
        for (int p = 0; p <= 5; p++) {
            Due.is("show(" + p + ", 0)", x.show(p, 0), BAD);
            Due.is("walk(" + p + ", 1)", x.walk(p, 1), BAD);
            Due.is("person(" + p + ", 0)", x.person(p, 0), BAD);
            Due.is("minds(" + p + ", 5 - p)", x.minds(p, 5 - p), BAD);
            Due.is("when(" + p + ")", x.when(p), BAD);
            Due.is("least(" + p + ", 0)", x.least(p, 0), BAD);
            Due.is("beside(" + p + ", 0)", x.beside(p, 0), BAD);
            Due.is("fits(" + p + ", 0, 0, 1, 0)", x.fits(p, 0, 0, 1, 0), BAD);
            Due.is("hidden(" + p + ", 0, 0, 0)", x.hidden(p, 0, 0, 0), BAD);
            Due.is("kind(" + p + ")", x.kind(p), BAD);
            Due.is("as(" + p + ", 0)", x.as(p, 0), BAD);
            Due.is("ask(" + p + ", 0)", x.ask(p, 0), BAD);
        }
    }

    @Says(promise = 1, text = "`LiftEnvy()`: No HOUSE.")
    static void noHouseBehindAFault() {
        LiftEnvy x = new LiftEnvy();
        Due.told(x, "f9,9;c1,1,1,1;c1,1,1,1");
        Due.is("car(0)", x.car(0), STATE);
        Due.is("count(1)", x.count(1), 0);
        Due.is("count(3)", x.count(3), 0);
        Due.is("person(0, 0)", x.person(0, 0), BAD);
    }

    @Says(promise = 1, text = "`LiftEnvy()`: No HOUSE.")
    static void twoObjectsHaveNothingInCommon() {
        LiftEnvy one = Due.housed(Due.SIX);
        one.row(0, 0, 3);
        one.image(0);
        one.feed('f');
        one.row(1, 0, -1);
        one.ask(0, 0);
        LiftEnvy other = new LiftEnvy();
        Due.each("count(v)", other::count, 0, 0, 1, 2, 3, 4, 5, 6);
        Due.is("restore(0)", other.restore(0), STATE);
        Due.is("status()", other.status(), 0);
        Due.is("trace(0)", other.trace(0), NONE);
    }

    // ---- promise 6

    @Says(promise = 6, text = "A byte (0 to 255) comes behind the tape: how many it has.")
    static void leastByteAndLargestByte() {
        LiftEnvy x = new LiftEnvy();
        Due.is("feed(0)", x.feed(0), 1);
        Due.is("feed(255)", x.feed(255), 2);
    }

    @Says(promise = 6, text = "A byte (0 to 255)")
    static void feedBelowAByte() {
        LiftEnvy x = new LiftEnvy();
        Due.tooSmall("feed(v)", x::feed, 0);
        Due.is("count(6)", x.count(6), 0);
    }

    @Says(promise = 6, text = "A byte (0 to 255)")
    static void feedBeyondAByte() {
        LiftEnvy x = new LiftEnvy();
        Due.tooLarge("feed(v)", x::feed, 255);
        Due.is("feed('f' + 256)", x.feed('f' + 256), BAD);
        Due.is("count(6)", x.count(6), 0);
    }

    @Says(promise = 6, text = "THE TAPE has at most 120 bytes, that come one by one")
    static void tapeThatBecomesFull() {
        LiftEnvy x = fed(119);
        Due.is("feed of the last", x.feed('f'), 120);
        Due.is("count(6)", x.count(6), 120);
    }

    @Says(promise = 6, text = "THE TAPE has at most 120 bytes")
    static void tapeThatIsFull() {
        LiftEnvy x = fed(120);
        Due.is("feed of one more", x.feed('f'), LiftEnvy.FULL);
        Due.is("feed again", x.feed(0), LiftEnvy.FULL);
        Due.is("count(6)", x.count(6), 120);
    }

    @Says(promise = 6, text = "how many it has.")
    static void tapeIsFedAgainBehindAHouse() {
        LiftEnvy x = fed(120);
        x.house();
        Due.is("feed", x.feed('f'), 1);
    }

    @Says(promise = 6, text = "What is refused, or found, changes nothing")
    static void badByteDoesNotCome() {
        LiftEnvy x = new LiftEnvy();
        x.feed('f');
        x.feed(-1);
        x.feed(256);
        Due.is("house() of the rest", Due.told(x, "3,1;"), 0);
    }

    @Says(promise = 6, text = "What is refused, or found, changes nothing")
    static void byteBeyondAFullTapeDoesNotCome() {
        LiftEnvy x = new LiftEnvy();
        String text = FULL_HOUSE + "m9,9,9,9;".repeat(7);
        for (int k = 0; k < 120; k++) {
            x.feed(text.charAt(k));
        }
        Due.is("feed", x.feed('!'), LiftEnvy.FULL);
        Due.is("house()", x.house(), FAULTS - 59);
        Due.is("fault()", x.fault(), 3);
    }

    // ---- promise 7: what stands where

    @Says(promise = 7, text = "house: law { person }.")
    static void houseWithNobody() {
        isHouse("f3,1;", 0);
    }

    @Says(promise = 7, text = "PEOPLE 0 .. 5, 6 at most")
    static void houseWithSoMany() {
        for (int n = 0; n <= 6; n++) {
            isHouse("f3,1;" + "v1,2,3,4;".repeat(n), n);
        }
    }

    @Says(promise = 7, text = "NUMBERS (figures, 2 at most)")
    static void longestHouse() {
        LiftEnvy x = new LiftEnvy();
        Due.is("house()", Due.told(x, "f09,08;" + "e07,06,05,04;".repeat(6)), 6);
        Due.is("count(3)", x.count(3), 9);
        Due.is("car(0)", x.car(0), 8);
        for (int what = 0; what <= 3; what++) {
            Due.is("person(5, " + what + ")", x.person(5, what), 7 - what);
        }
    }

    @Says(promise = 7, text = "law: f TOP , CAR ;")
    static void onlyFBeginsALaw() {
        onlyThese("f", "", "3,1;", 0);
    }

    @Says(promise = 7, text = "law: f TOP , CAR ;")
    static void onlyACommaBehindTop() {
        // a figure there makes another number: of two, or of none
        for (int b = 0; b <= 255; b++) {
            boolean figure = b >= '0' && b <= '9';
            if (b != ',' && !figure) {
                isFault("f3" + (char) b + "1;", 2, 1);
            }
        }
        isHouse("f3,1;", 0);
    }

    @Says(promise = 7, text = "law: f TOP , CAR ;")
    static void onlyASemicolonBehindCar() {
        for (int b = 0; b <= 255; b++) {
            boolean figure = b >= '0' && b <= '9';
            if (b != ';' && !figure) {
                isFault("f3,1" + (char) b, 4, 1);
            }
        }
    }

    @Says(promise = 7, text = "SORT: c a clerk, v a vain one, m a meek one, h a chief, e an heir")
    static void onlyFiveSorts() {
        onlyThese("cvmhe", "f3,1;", "1,2,3,0;", 1);
        onlyThese("cvmhe", "f3,1;c1,2,3,0;", "1,2,3,0;", 2);
    }

    @Says(promise = 7, text = "person: SORT FLOOR , WANTS , SHOWS , TEMPER ;")
    static void onlyCommasBetweenNumbers() {
        for (int b = 0; b <= 255; b++) {
            boolean figure = b >= '0' && b <= '9';
            if (b != ',' && !figure) {
                isFault("f3,1;c1" + (char) b + "2,3,0;", 7, 1);
                isFault("f3,1;c1,2" + (char) b + "3,0;", 9, 1);
                isFault("f3,1;c1,2,3" + (char) b + "0;", 11, 1);
            }
        }
    }

    @Says(promise = 7, text = "person: SORT FLOOR , WANTS , SHOWS , TEMPER ;")
    static void onlyASemicolonBehindTemper() {
        for (int b = 0; b <= 255; b++) {
            boolean figure = b >= '0' && b <= '9';
            if (b != ';' && !figure) {
                isFault("f3,1;c1,2,3,0" + (char) b, 13, 1);
            }
        }
    }

    @Says(promise = 7, text = "NUMBERS (figures, 2 at most)")
    static void onlyFiguresAreNumbers() {
        for (int b = 0; b <= 255; b++) {
            if (b < '0' || b > '9') {
                isFault("f" + (char) b + ",0;", 1, 1);
            }
        }
        onlyThese("0123456789", "f9,", ";", 0);
        onlyThese("0123456789", "f9,0;c", ",2,3,4;", 1);
        onlyThese("0123456789", "f9,0;c1,", ",3,4;", 1);
        onlyThese("0123456789", "f9,0;c1,2,", ",4;", 1);
        onlyThese("0123456789", "f9,0;c1,2,3,", ";", 1);
    }

    @Says(promise = 7, text = "nothing else, no blanks")
    static void blanks() {
        isFault(" f3,1;", 0, 1);
        isFault("f 3,1;", 1, 1);
        isFault("f3 ,1;", 2, 1);
        isFault("f3, 1;", 3, 1);
        isFault("f3,1 ;", 4, 1);
        isFault("f3,1; ", 5, 1);
        isFault("f3,1;\n", 5, 1);
        isFault("f3,1;\tc1,2,3,4;", 5, 1);
    }

    // ---- promise 7: faults of the first kind

    @Says(promise = 7, text = "the end: how many bytes there are")
    static void emptyTape() {
        LiftEnvy x = new LiftEnvy();
        Due.is("house()", x.house(), FAULTS);
        Due.is("fault()", x.fault(), 1);
    }

    @Says(promise = 7, text = "the end: how many bytes there are")
    static void textsThatEndTooEarly() {
        for (int length = 0; length < FULL_HOUSE.length(); length++) {
            if (length >= 5 && (length - 5) % 9 == 0) {
                isHouse(FULL_HOUSE.substring(0, length), (length - 5) / 9);
            } else {
                isFault(FULL_HOUSE.substring(0, length), length, 1);
            }
        }
    }

    @Says(promise = 7, text = "the end: how many bytes there are")
    static void endBehindANumberOfTwoFigures() {
        isFault("f03", 3, 1);
        isFault("f03,01", 6, 1);
    }

    @Says(promise = 7, text = "a run of three figures, at its first")
    static void runsOfThreeFigures() {
        isFault("f003,1;", 1, 1);
        isFault("f3,001;", 3, 1);
        isFault("f3,1;c001,2,3,4;", 6, 1);
        isFault("f3,1;c1,002,3,4;", 8, 1);
        isFault("f3,1;c1,2,003,4;", 10, 1);
        isFault("f3,1;c1,2,3,004;", 12, 1);
        isFault("f3,1;000", 5, 1);
        isFault("f3,1;c1,2,3,004", 12, 1);
    }

    @Says(promise = 7, text = "a run of three figures, at its first")
    static void runsOfMoreFigures() {
        isFault("f0003,1;", 1, 1);
        isFault("f00000000000003,1;", 1, 1);
        isFault("f4294967297,1;", 1, 1);
        isFault("f3,1;c1,2,3,99999999999;", 12, 1);
    }

    @Says(promise = 7, text = "NUMBERS (figures, 2 at most)")
    static void runsOfTwoFigures() {
        isHouse("f03,01;c01,02,03,04;", 1);
        isHouse("f09,00;h00,09,00,09;", 1);
    }

    @Says(promise = 7, text = "1 it cannot stand there, or is none")
    static void tokensThatCannotStandThere() {
        isFault("3", 0, 1);
        isFault(",", 0, 1);
        isFault("c1,2,3,4;", 0, 1);
        isFault("f,1;", 1, 1);
        isFault("f;", 1, 1);
        isFault("ff3,1;", 1, 1);
        isFault("f3,;", 3, 1);
        isFault("f3;1;", 2, 1);
        isFault("f3,1,2;", 4, 1);
        isFault("f3,1;;", 5, 1);
        isFault("f3,1;f3,1;", 5, 1);
        isFault("f3,1;c,1,2,3;", 6, 1);
        isFault("f3,1;cc1,2,3,4;", 6, 1);
        isFault("f3,1;c1,2,3;", 11, 1);
        isFault("f3,1;c1,2,3,4,5;", 13, 1);
        isFault("f3,1;c1,2,3,4;7", 14, 1);
        isFault("f3,1;c-1,2,3,4;", 6, 1);
    }

    // ---- promise 7: faults of the second kind

    @Says(promise = 7, text = "1 to 9: FLOORS 0 .. TOP")
    static void leastTopAndLargestTop() {
        LiftEnvy x = Due.housed("f1,0;");
        Due.is("count(3)", x.count(3), 1);
        x = Due.housed("f9,0;");
        Due.is("count(3)", x.count(3), 9);
    }

    @Says(promise = 7, text = "1 to 9: FLOORS 0 .. TOP")
    static void topTooSmall() {
        isFault("f0,0;", 1, 2);
        isFault("f00,0;", 1, 2);
    }

    @Says(promise = 7, text = "1 to 9: FLOORS 0 .. TOP")
    static void topTooLarge() {
        isFault("f10,0;", 1, 2);
        isFault("f99,0;", 1, 2);
    }

    @Says(promise = 7, text = "a FLOOR: where the car is")
    static void carAtBothEnds() {
        for (int top = 1; top <= 9; top++) {
            Due.is("car(0)", Due.housed("f" + top + ",0;").car(0), 0);
            Due.is("car(0)", Due.housed("f" + top + "," + top + ";").car(0), top);
        }
    }

    @Says(promise = 7, text = "a FLOOR: where the car is")
    static void carAboveTop() {
        for (int top = 1; top <= 9; top++) {
            isFault("f" + top + "," + (top + 1) + ";", 3, 2);
        }
        isFault("f3,99;", 3, 2);
    }

    @Says(promise = 7, text = "FLOORS; 0 to 9; 0 to 9;")
    static void leastNumbersOfAPerson() {
        LiftEnvy x = Due.housed("f1,1;c0,0,0,0;");
        Due.each("person(0, v)", v -> x.person(0, v), 0, 0, 1, 2, 3);
    }

    @Says(promise = 7, text = "FLOORS; 0 to 9; 0 to 9;")
    static void largestNumbersOfAPerson() {
        LiftEnvy x = Due.housed("f1,1;c1,1,9,9;");
        Due.each("person(0, v)", v -> x.person(0, v), 1, 0, 1);
        Due.each("person(0, v)", v -> x.person(0, v), 9, 2, 3);
    }

    @Says(promise = 7, text = "FLOORS; 0 to 9; 0 to 9;")
    static void floorAboveTop() {
        isFault("f3,1;c4,2,3,4;", 6, 2);
        isFault("f9,1;c10,2,3,4;", 6, 2);
        isFault("f3,1;c99,2,3,4;", 6, 2);
    }

    @Says(promise = 7, text = "FLOORS; 0 to 9; 0 to 9;")
    static void wantsAboveTop() {
        isFault("f3,1;c1,4,3,4;", 8, 2);
        isFault("f9,1;c1,10,3,4;", 8, 2);
    }

    @Says(promise = 7, text = "FLOORS; 0 to 9; 0 to 9;")
    static void showsTooMuch() {
        isFault("f3,1;c1,2,10,4;", 10, 2);
        isFault("f3,1;c1,2,99,4;", 10, 2);
    }

    @Says(promise = 7, text = "FLOORS; 0 to 9; 0 to 9;")
    static void temperTooMuch() {
        isFault("f3,1;c1,2,3,10;", 12, 2);
        isFault("f3,1;c1,2,3,99;", 12, 2);
    }

    @Says(promise = 7, text = "2 a NUMBER that is not as told")
    static void numberNotAsToldAtTheEnd() {
        isFault("f0", 1, 2);
        isFault("f3,4", 3, 2);
        isFault("f3,1;c4", 6, 2);
    }

    @Says(promise = 7, text = "2 a NUMBER that is not as told")
    static void numberNotAsToldOfALaterPerson() {
        isFault("f3,1;" + "h1,1,1,1;".repeat(5) + "h1,1,1,10;", 57, 2);
    }

    // ---- promise 7: faults of the third kind, and which fault is told

    @Says(promise = 7, text = "3 a person more than there is room for (its letter)")
    static void seventhPerson() {
        for (String sort : new String[] {"c", "v", "m", "h", "e"}) {
            isFault(FULL_HOUSE + sort + "9,9,9,9;", 59, 3);
            isFault(FULL_HOUSE + sort, 59, 3);
            isFault(FULL_HOUSE + sort + "99", 59, 3);
        }
    }

    @Says(promise = 7, text = "of one TOKEN the least: 1 it cannot stand there, or is none")
    static void seventhOfNoSort() {
        isFault(FULL_HOUSE + "x9,9,9,9;", 59, 1);
        isFault(FULL_HOUSE + "f9,9;", 59, 1);
        isFault(FULL_HOUSE + ";", 59, 1);
        isFault(FULL_HOUSE + "99", 59, 1);
    }

    @Says(promise = 7, text = "of one TOKEN the least: 1 it cannot stand there, or is none")
    static void numberThatIsNotAsToldAndCannotStandThere() {
        isFault("f3,1;99", 5, 1);
        isFault("99", 0, 1);
    }

    @Says(promise = 7, text = "FAULTS, the first TOKEN that has one (its first byte)")
    static void firstOfSeveralFaults() {
        isFault("f0,!", 1, 2);
        isFault("f3!0;", 2, 1);
        isFault("f3,1;c4,4,10,10;", 6, 2);
        isFault("f3,1;c1,4,10,10!", 8, 2);
        isFault("f3,1;c1,1,10,100;", 10, 2);
        isFault("f3,1;c1,1,100,10;", 10, 1);
        isFault("f3,1;" + "h1,1,1,10;".repeat(7), 12, 2);
    }

    @Says(promise = 7, text = "FAULTS, the first TOKEN that has one (its first byte)")
    static void firstByteOfATokenOfTwo() {
        isFault("f3,1;c01,02,03,10;", 15, 2);
        isFault("f10,01;", 1, 2);
    }

    @Says(promise = 7, text = "-1000100 less the place of a FAULT: all stays.")
    static void faultAtTheEndOfAFullTape() {
        // a house takes 85 bytes at most, so that a full tape always has a seventh person, or worse
        LiftEnvy x = new LiftEnvy();
        String text = "f09,09;" + "e09,09,09,09;".repeat(9);
        for (int k = 0; k < 120; k++) {
            x.feed(text.charAt(k));
        }
        Due.is("house()", x.house(), FAULTS - 85);
        Due.is("fault()", x.fault(), 3);
    }

    // ---- promise 7: what a house does

    @Says(promise = 7, text = "The tape, empty then, is read: how many PEOPLE there are.")
    static void tapeIsEmptyBehindAHouse() {
        LiftEnvy x = Due.housed(Due.TWO);
        Due.is("count(6)", x.count(6), 0);
        Due.is("house() of nothing", x.house(), FAULTS);
    }

    @Says(promise = 7, text = "The tape, empty then, is read: how many PEOPLE there are.")
    static void tapeIsEmptyBehindAFault() {
        LiftEnvy x = new LiftEnvy();
        Due.told(x, "f3,1");
        Due.is("count(6)", x.count(6), 0);
        Due.is("house() of another text", Due.told(x, "f3,1;"), 0);
    }

    @Says(promise = 7, text = "The tape, empty then, is read: how many PEOPLE there are.")
    static void shorterTextBehindALongerOne() {
        LiftEnvy x = Due.housed("f9,05;c1,2,3,4;");
        Due.is("house() of f9,0", Due.told(x, "f9,0"), FAULTS - 4);
        Due.is("fault()", x.fault(), 1);
        Due.is("house() of f9,05", Due.told(x, "f9,05"), FAULTS - 5);
        Due.told(x, "f9,199;c1,2,3,4;");
        Due.is("house() of f9,1", Due.told(x, "f9,1"), FAULTS - 4);
        Due.is("fault()", x.fault(), 1);
        Due.told(x, "f9,1;c1,2,3,4;");
        Due.is("house() of f9,1;", Due.told(x, "f9,1;"), 0);
        Due.is("house() of f9,1;c1,2,3", Due.told(x, "f9,1;c1,2,3"), FAULTS - 11);
    }

    @Says(promise = 7, text = "-1000100 less the place of a FAULT: all stays.")
    static void allStaysBehindAFault() {
        LiftEnvy x = Due.housed(Due.TWO);
        x.steps(5);
        x.image(1);
        x.show(0, 4);
        Due.told(x, "f9,9;h1,1,1,1;h1,1,1,1;h1,1,1,10;");
        Due.is("count(1)", x.count(1), 2);
        Due.is("count(2)", x.count(2), 5);
        Due.is("count(3)", x.count(3), 3);
        Due.is("count(5)", x.count(5), 6);
        Due.is("car(0)", x.car(0), 0);
        Due.is("car(3)", x.car(3), 2);
        Due.is("kind(0)", x.kind(0), 1);
        Due.is("person(0, 2)", x.person(0, 2), 4);
        Due.is("undo()", x.undo(), 5);
        Due.is("restore(1)", x.restore(1), 1);
    }

    @Says(promise = 7, text = "stands in place of the one before (none at first): STEP 0")
    static void newHouseIsAtStep0() {
        LiftEnvy x = Due.atStep(Due.TWO, 999);
        Due.told(x, Due.TWO);
        Due.is("count(2)", x.count(2), 0);
        Due.is("steps(24)", x.steps(24), 0);
    }

    @Says(promise = 7, text = "nobody rides, nobody is BROUGHT")
    static void nobodyRidesInANewHouse() {
        LiftEnvy x = Due.atStep(Due.TWO, 3);
        Due.is("car(1)", x.car(1), 1);
        Due.told(x, Due.TWO);
        Due.is("car(1) then", x.car(1), NONE);
        Due.is("car(0) then", x.car(0), 0);
        Due.is("walk(1, 1) then", x.walk(1, 1), 2);
    }

    @Says(promise = 7, text = "nobody rides, nobody is BROUGHT")
    static void nobodyIsBroughtInANewHouse() {
        LiftEnvy x = Due.atStep(Due.TWO, 4);
        Due.is("car(3)", x.car(3), 2);
        Due.told(x, Due.TWO);
        Due.is("car(3) then", x.car(3), 0);
        Due.is("count(4) then", x.count(4), 0);
        Due.is("person(1, 5) then", x.person(1, 5), 0);
    }

    @Says(promise = 7, text = "STEP 0, nobody rides, nobody is BROUGHT")
    static void newHouseBehindForetellings() {
        LiftEnvy x = Due.atStep(Due.TWO, 1);
        Due.is("ahead(1, 1)", x.ahead(1, 1), 1);
        Due.told(x, Due.TWO);
        Due.is("car(1)", x.car(1), NONE);
        Due.is("count(2)", x.count(2), 0);
        Due.is("ahead(60, 2)", x.ahead(60, 2), 2);
        Due.told(x, Due.TWO);
        Due.is("car(3)", x.car(3), 0);
        Due.is("car(2)", x.car(2), 1);
        Due.is("steps(1)", x.steps(1), 1);
    }

    @Says(promise = 7, text = "-1000100 less the place of a FAULT: all stays.")
    static void houseBehindAFaultBehindForetellings() {
        LiftEnvy x = Due.atStep(Due.TWO, 1);
        x.ahead(60, 0);
        Due.told(x, "f9,9;h9,9,9,9;h9,9,9,9;h9");
        Due.is("car(0)", x.car(0), 1);
        Due.is("car(2)", x.car(2), 1);
        Due.is("when(1)", x.when(1), 3);
        Due.is("never()", x.never(), 1);
    }

    @Says(promise = 7, text = "no ACT can be undone.")
    static void noActOfTheHouseBefore() {
        LiftEnvy x = Due.atStep(Due.TWO, 24);
        Due.told(x, Due.TWO);
        Due.is("count(5)", x.count(5), 0);
        Due.is("undo()", x.undo(), STATE);
    }

    @Says(promise = 7, text = "A HOUSE that is read stands in place of the one before")
    static void peopleOfTheHouseBeforeAreGone() {
        LiftEnvy x = Due.housed(Due.SIX);
        Due.told(x, Due.TWO);
        Due.is("person(1, 2)", x.person(1, 2), 5);
        Due.each("person(v, 0)", v -> x.person(v, 0), BAD, 2, 3, 4, 5);
        Due.told(x, "f3,1;");
        Due.each("person(v, 0)", v -> x.person(v, 0), BAD, 0, 1);
        Due.is("car(2)", x.car(2), NONE);
    }

    // ---- promise 8

    @Says(promise = 8, text = "The number of the latest FAULT; 0 before one.")
    static void noFaultBeforeOne() {
        LiftEnvy x = new LiftEnvy();
        Due.is("fault()", x.fault(), 0);
        Due.told(x, Due.SIX);
        Due.is("fault() behind a house", x.fault(), 0);
    }

    @Says(promise = 8, text = "The number of the latest FAULT; 0 before one.")
    static void latestOfSeveralFaults() {
        LiftEnvy x = new LiftEnvy();
        Due.told(x, FULL_HOUSE + "c");
        Due.is("fault()", x.fault(), 3);
        Due.told(x, "f0");
        Due.is("fault()", x.fault(), 2);
        Due.told(x, "");
        Due.is("fault()", x.fault(), 1);
    }

    @Says(promise = 8, text = "The number of the latest FAULT; 0 before one.")
    static void latestFaultOutlivesAHouse() {
        LiftEnvy x = new LiftEnvy();
        Due.told(x, "f0");
        Due.told(x, Due.TWO);
        Due.is("fault()", x.fault(), 2);
    }

    @Says(promise = 8, text = "The number of the latest FAULT; 0 before one.")
    static void noOtherRefusalIsAFault() {
        LiftEnvy x = new LiftEnvy();
        x.feed(256);
        x.row(0, 0, -1);
        x.steps(1);
        x.undo();
        Due.is("fault()", x.fault(), 0);
    }
}
