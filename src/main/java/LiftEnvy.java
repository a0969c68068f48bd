/**
 * A lift that stops only for whom those around him mind most. The document of the promises is
 * ../shared/DOC.md; words in capitals here are its terms.
 *
 * Everything that a call needs is made once, in the constructor: no call makes an object.
 */
public final class LiftEnvy {
    public static final int NONE = -1000000, BAD = -1000001, STATE = -1000002, FULL = -1000003;

    private static final int FINDINGS = -1000010, FAULTS = -1000100;
    private static final int NULL_FOUND = 1, PLACE_FOUND = 2, KIND_FOUND = 3, SIZE_FOUND = 4,
        STORE_FOUND = 5;
    private static final int ROWS = 8, IMAGES = 2;
    private static final int MOST_STEPS = 24, LAST_STEP = 999, FAR = 60, FARTHEST = 99;
    private static final int MOST_READINGS = 16, TENTHS = 10, MOST_SEED = 999999;
    private static final long FACTOR = 16807L, MODULUS = 2147483647L;

    private final Row[] rows = new Row[ROWS];
    private final Tape tape = new Tape();
    private final House now = new House();
    private final House supposed = new House();
    private final House[] images = new House[IMAGES];
    private final boolean[] kept = new boolean[IMAGES];
    private final Acts acts = new Acts();
    private final Person[] kinds = {
        new Clerk(), new Vain(), new Meek(), new Chief(), new Heir()
    };
    private final Trace left = new Trace();
    private boolean housed;
    private int latestFault;
    private int finding;

    public LiftEnvy() {
        for (int r = 0; r < ROWS; r++) {
            rows[r] = new Row();
        }
        for (int k = 0; k < IMAGES; k++) {
            images[k] = new House();
        }
    }

    // ---- rows

    public int row(int row, int lane, int n) {
        if (!isRow(row) || !isWithin(lane, Row.BYTES, Row.INTS) || n > Row.MOST) {
            return BAD;
        }
        if (n < 0) {
            return found(SIZE_FOUND);
        }
        rows[row].become(lane, n);
        return unhindered(n);
    }

    public int set(int row, int i, int v) {
        if (!isRow(row)) {
            return BAD;
        }
        Row there = rows[row];
        if (there.isMissing()) {
            return found(NULL_FOUND);
        }
        if (!there.holds(i, 1)) {
            return found(PLACE_FOUND);
        }
        there.items[i] = there.cut(v);
        return unhindered(there.items[i]);
    }

    public int copy(int a, int i, int b, int j, int n) {
        if (!isRow(a) || !isRow(b)) {
            return BAD;
        }
        Row from = rows[a];
        Row to = rows[b];
        if (from.isMissing() || to.isMissing()) {
            return found(NULL_FOUND);
        }
        if (from.lane != to.lane) {
            return found(STORE_FOUND);
        }
        if (!from.holds(i, n) || !to.holds(j, n)) {
            return found(PLACE_FOUND);
        }
        System.arraycopy(from.items, i, to.items, j, n);
        return unhindered(n);
    }

    public int drop(int row) {
        if (!isRow(row)) {
            return BAD;
        }
        if (rows[row].isMissing()) {
            return found(NULL_FOUND);
        }
        int had = rows[row].length;
        rows[row].lane = Row.MISSING;
        return unhindered(had);
    }

    // ---- houses, acts

    public int feed(int letter) {
        if (!isWithin(letter, 0, 255)) {
            return BAD;
        }
        if (tape.length >= Tape.MOST) {
            return FULL;
        }
        tape.bytes[tape.length] = letter;
        tape.length++;
        return tape.length;
    }

    public int house() {
        boolean right = tape.tellsHouse(supposed);
        tape.length = 0;
        if (!right) {
            latestFault = tape.fault;
            return FAULTS - tape.place;
        }
        now.become(supposed);
        acts.forget();
        housed = true;
        return now.people;
    }

    public int fault() {
        return latestFault;
    }

    public int steps(int n) {
        if (!housed) {
            return STATE;
        }
        if (!isWithin(n, 1, MOST_STEPS)) {
            return BAD;
        }
        if (now.step + n > LAST_STEP) {
            return FULL;
        }
        for (int k = 0; k < n; k++) {
            acts.keep(now);
            now.advance();
        }
        return now.car;
    }

    public int show(int person, int v) {
        if (!isPerson(person) || !isWithin(v, 0, House.MOST_SHOWN)) {
            return BAD;
        }
        int before = now.shows[person];
        acts.keep(now);
        now.put(House.SHOWS, person, v);
        return before;
    }

    public int walk(int person, int up) {
        if (!isPerson(person) || !isWithin(up, 0, 1)) {
            return BAD;
        }
        int next = now.floor[person] + (up == 1 ? 1 : -1);
        if (now.rider == person || !isWithin(next, 0, now.top)) {
            return STATE;
        }
        acts.keep(now);
        now.put(House.FLOOR, person, next);
        return next;
    }

    public int undo() {
        if (acts.number == 0) {
            return STATE;
        }
        acts.takeBack(now);
        return acts.number;
    }

    public int person(int person, int what) {
        if (!isPerson(person)) {
            return BAD;
        }
        switch (what) {
            case 0: return now.floor[person];
            case 1: return now.wants[person];
            case 2: return now.shows[person];
            case 3: return now.temper[person];
            case 4: return now.envy(person);
            case 5: return now.isBrought(person) ? 1 : 0;
            default: return BAD;
        }
    }

    public int minds(int person, int other) {
        if (!isPerson(person) || !isPerson(other) || person == other) {
            return BAD;
        }
        return now.minding(person, other);
    }

    public int car(int what) {
        if (!housed) {
            return STATE;
        }
        switch (what) {
            case 0: return now.car;
            case 1: return orNone(now.rider);
            case 2: return orNone(now.rider == House.NOBODY ? now.goal() : House.NOBODY);
            case 3: return now.brought;
            default: return BAD;
        }
    }

    // ---- foretold

    public int ahead(int d, int what) {
        if (!housed) {
            return STATE;
        }
        if (!isWithin(d, 0, FAR) || !isWithin(what, 0, 2)) {
            return BAD;
        }
        supposed.become(now);
        supposed.lastWithin(d);
        switch (what) {
            case 0: return supposed.car;
            case 1: return orNone(supposed.rider);
            default: return supposed.brought;
        }
    }

    public int when(int person) {
        if (!isPerson(person)) {
            return BAD;
        }
        supposed.become(now);
        return orNone(supposed.until(person, FARTHEST));
    }

    public int first(int what) {
        if (!housed) {
            return STATE;
        }
        if (!isWithin(what, 0, 1)) {
            return BAD;
        }
        supposed.become(now);
        for (int d = 1; d <= FARTHEST; d++) {
            int rider = supposed.rider;
            supposed.advance();
            if (supposed.brought != now.brought) {
                return what == 0 ? rider : d;
            }
        }
        return NONE;
    }

    public int never() {
        if (!housed) {
            return STATE;
        }
        supposed.become(now);
        supposed.lastWithin(FARTHEST);
        return ((1 << now.people) - 1) & ~supposed.brought;
    }

    public int least(int person, int d) {
        if (!isPerson(person) || !isWithin(d, 0, FAR)) {
            return BAD;
        }
        if (now.isBrought(person)) {
            return STATE;
        }
        for (int v = 0; v <= House.MOST_SHOWN; v++) {
            supposed.become(now);
            supposed.put(House.SHOWS, person, v);
            if (supposed.until(person, d) != House.NOT) {
                return v;
            }
        }
        return NONE;
    }

    public int hide(int what) {
        if (!housed) {
            return STATE;
        }
        if (!isWithin(what, 0, 1)) {
            return BAD;
        }
        int best = 0;
        int most = worth(0);
        int sets = 1 << now.people;
        // a later set must be better, not as good: so of several the least bits stay
        for (int set = 1; set < sets; set++) {
            int worth = worth(set);
            if (worth > most) {
                best = set;
                most = worth;
            }
        }
        return what == 0 ? most / 1000 : best;
    }

    public int beside(int person, int what) {
        if (!isPerson(person) || !isWithin(what, 0, 1)) {
            return BAD;
        }
        if (now.rider == person || now.isBrought(person)) {
            return STATE;
        }
        int place = NONE;
        int soonest = NONE;
        for (int floor = 0; floor <= now.top; floor++) {
            supposed.become(now);
            supposed.put(House.FLOOR, person, floor);
            int d = supposed.until(person, FARTHEST);
            if (d != House.NOT && (place == NONE || d < soonest)) {
                place = floor;
                soonest = d;
            }
        }
        return what == 0 ? place : soonest;
    }

    public int fits(int person, int row, int i, int n, int what) {
        if (!isPerson(person) || !isRow(row)) {
            return BAD;
        }
        if (!isWithin(n, 1, MOST_READINGS) || !isWithin(what, 0, 2)) {
            return BAD;
        }
        Row told = rows[row];
        if (told.isMissing()) {
            return found(NULL_FOUND);
        }
        if (!told.holds(i, n)) {
            return found(PLACE_FOUND);
        }
        switch (what) {
            case 0: return unhindered(fitting(person, House.KIND, told, i, n));
            case 1: return unhindered(fitting(person, House.SHOWS, told, i, n));
            default: return unhindered(fitting(person, House.WANTS, told, i, n));
        }
    }

    public int hidden(int person, int d, int c, int what) {
        if (!isPerson(person) || !isWithin(d, 0, FAR)) {
            return BAD;
        }
        if (!isWithin(c, 0, TENTHS) || !isWithin(what, 0, 1)) {
            return BAD;
        }
        int showing = now.showing();
        int many = Integer.bitCount(showing);
        int above = 0;
        for (int set = 0; set <= showing; set++) {
            if ((set & ~showing) == 0) {
                int few = Integer.bitCount(set);
                int weight = power(c, few) * power(TENTHS - c, many - few);
                above += weight != 0 && isBroughtHiding(person, d, set) ? weight : 0;
            }
        }
        int below = power(TENTHS, many);
        int common = commonDivisor(above, below);
        return (what == 0 ? above : below) / common;
    }

    public int drawn(int n, int seed, int what) {
        if (!housed) {
            return STATE;
        }
        if (!isWithin(n, 0, FAR) || !isWithin(seed, 1, MOST_SEED) || !isWithin(what, 0, 1)) {
            return BAD;
        }
        supposed.become(now);
        long x = seed;
        for (int k = 0; k < n; k++) {
            x = x * FACTOR % MODULUS;
            supposed.stray(x);
            supposed.advance();
        }
        return what == 0 ? Integer.bitCount(supposed.brought) : supposed.car;
    }

    public int image(int k) {
        if (!isWithin(k, 0, IMAGES - 1)) {
            return BAD;
        }
        if (!housed) {
            return STATE;
        }
        images[k].become(now);
        kept[k] = true;
        return 1;
    }

    public int restore(int k) {
        if (!isWithin(k, 0, IMAGES - 1)) {
            return BAD;
        }
        if (!kept[k]) {
            return STATE;
        }
        now.become(images[k]);
        acts.forget();
        return 1;
    }

    // ---- asked

    public int kind(int person) {
        return isPerson(person) ? now.kind[person] : BAD;
    }

    public int as(int person, int kind) {
        if (!isPerson(person) || !isWithin(kind, 0, House.HEIR)) {
            return BAD;
        }
        if (!isOne(kindOf(person), kind)) {
            return found(KIND_FOUND);
        }
        return unhindered(person);
    }

    public int ask(int person, int what) {
        if (!isPerson(person) || !isWithin(what, 0, 1)) {
            return BAD;
        }
        left.length = 0;
        Person asked = kindOf(person);
        return what == 0 ? asked.size(now, person, left) : asked.mark(now, person, left);
    }

    public int trace(int i) {
        return isWithin(i, 0, left.length - 1) ? left.bodies[i] : NONE;
    }

    public int count(int what) {
        switch (what) {
            case 0: return rowsThere();
            case 1: return now.people;
            case 2: return now.step;
            case 3: return now.top;
            case 4: return Integer.bitCount(now.brought);
            case 5: return acts.number;
            case 6: return tape.length;
            default: return BAD;
        }
    }

    public int status() {
        return finding;
    }

    // ---- what the calls share

    private static boolean isWithin(int v, int least, int most) {
        return v >= least && v <= most;
    }

    private static boolean isRow(int row) {
        return isWithin(row, 0, ROWS - 1);
    }

    private boolean isPerson(int person) {
        return isWithin(person, 0, now.people - 1);
    }

    private Person kindOf(int person) {
        return kinds[now.kind[person] - House.CLERK];
    }

    private int found(int number) {
        finding = number;
        return FINDINGS - number;
    }

    private int unhindered(int answer) {
        finding = 0;
        return answer;
    }

    private static int orNone(int number) {
        return number < 0 ? NONE : number;
    }

    private int rowsThere() {
        int there = 0;
        for (int r = 0; r < ROWS; r++) {
            there += rows[r].isMissing() ? 0 : 1;
        }
        return there;
    }

    /** How good it is that a set hides: one number, so that of two sets the better has more. */
    private int worth(int set) {
        supposed.become(now);
        supposed.conceal(set);
        int last = supposed.lastWithin(FARTHEST);
        int brought = Integer.bitCount(supposed.brought);
        return brought * 1000 + (FARTHEST - last) * 10 + (House.MOST_PEOPLE - Integer.bitCount(set));
    }

    private boolean isBroughtHiding(int person, int d, int set) {
        supposed.become(now);
        supposed.conceal(set);
        return supposed.until(person, d) != House.NOT;
    }

    /** What a trait of one may be (bits), so that the car goes as told. */
    private int fitting(int person, int trait, Row told, int i, int n) {
        int fit = 0;
        int most = now.mostOf(trait);
        for (int v = trait == House.KIND ? House.CLERK : 0; v <= most; v++) {
            supposed.become(now);
            supposed.put(trait, person, v);
            fit |= supposed.goesAs(told.items, i, n) ? 1 << v : 0;
        }
        return fit;
    }

    private static int power(int base, int n) {
        int product = 1;
        for (int k = 0; k < n; k++) {
            product *= base;
        }
        return product;
    }

    private static int commonDivisor(int a, int b) {
        int larger = a;
        int smaller = b;
        for (int k = 0; k < 100 && smaller != 0; k++) {
            int rest = larger % smaller;
            larger = smaller;
            smaller = rest;
        }
        return Math.max(larger, 1);
    }

    private static boolean isOne(Person one, int kind) {
        switch (kind) {
            case House.CLERK: return one instanceof Clerk;
            case House.VAIN: return one instanceof Vain;
            case House.MEEK: return one instanceof Meek;
            case House.CHIEF: return one instanceof Chief;
            case House.HEIR: return one instanceof Heir;
            default: return true;
        }
    }

    /** A ROW, missing or there; the items of all LANES are held as ints that are cut. */
    private static final class Row {
        static final int MISSING = -1, BYTES = 0, SHORTS = 1, INTS = 2, MOST = 40;

        final int[] items = new int[MOST];
        int lane = MISSING;
        int length;

        boolean isMissing() {
            return lane == MISSING;
        }

        void become(int newLane, int n) {
            lane = newLane;
            length = n;
            for (int i = 0; i < MOST; i++) {
                items[i] = 0;
            }
        }

        /** Nothing is added here: i + n could be more than an int holds. */
        boolean holds(int i, int n) {
            return i >= 0 && n >= 0 && i <= length && n <= length - i;
        }

        int cut(int v) {
            switch (lane) {
                case BYTES: return (byte) v;
                case SHORTS: return (short) v;
                default: return v;
            }
        }
    }

    /** THE TAPE, and how a HOUSE is read from it. */
    private static final class Tape {
        static final int MOST = 120;
        private static final int MISPLACED = 1, WRONG_NUMBER = 2, NO_ROOM = 3, MOST_TOP = 9;

        final int[] bytes = new int[MOST];
        int length;
        int place;
        int fault;
        private int number;

        /** Whether the tape is right; if not, place and fault say where it is not, and how. */
        boolean tellsHouse(House told) {
            place = 0;
            if (!tellsLaw(told)) {
                return false;
            }
            for (int p = 0; p <= House.MOST_PEOPLE && place < length; p++) {
                if (!tellsPerson(told, p)) {
                    return false;
                }
            }
            return true;
        }

        private boolean tellsLaw(House told) {
            if (!takesSign('f') || !takesNumber(1, MOST_TOP)) {
                return false;
            }
            int top = number;
            if (!takesSign(',') || !takesNumber(0, top) || !takesSign(';')) {
                return false;
            }
            told.begin(top, number);
            return true;
        }

        private boolean tellsPerson(House told, int p) {
            int kind = sort();
            if (kind == 0) {
                return refuses(MISPLACED);
            }
            if (p >= House.MOST_PEOPLE) {
                return refuses(NO_ROOM);
            }
            place++;
            if (!takesNumber(0, told.top)) {
                return false;
            }
            told.floor[p] = number;
            if (!takesSign(',') || !takesNumber(0, told.top)) {
                return false;
            }
            told.wants[p] = number;
            if (!takesSign(',') || !takesNumber(0, House.MOST_SHOWN)) {
                return false;
            }
            told.shows[p] = number;
            if (!takesSign(',') || !takesNumber(0, House.MOST_TEMPER) || !takesSign(';')) {
                return false;
            }
            told.temper[p] = number;
            told.kind[p] = kind;
            told.people = p + 1;
            return true;
        }

        private int sort() {
            switch (place < length ? bytes[place] : 0) {
                case 'c': return House.CLERK;
                case 'v': return House.VAIN;
                case 'm': return House.MEEK;
                case 'h': return House.CHIEF;
                case 'e': return House.HEIR;
                default: return 0;
            }
        }

        private boolean takesSign(char sign) {
            if (place >= length || bytes[place] != sign) {
                return refuses(MISPLACED);
            }
            place++;
            return true;
        }

        private boolean takesNumber(int least, int most) {
            int end = place;
            int value = 0;
            // three figures are enough to know that it is no NUMBER
            for (int k = 0; k < 3 && end < length && isFigure(bytes[end]); k++) {
                value = value * 10 + bytes[end] - '0';
                end++;
            }
            if (end == place || end - place > 2) {
                return refuses(MISPLACED);
            }
            if (value < least || value > most) {
                return refuses(WRONG_NUMBER);
            }
            place = end;
            number = value;
            return true;
        }

        private static boolean isFigure(int letter) {
            return letter >= '0' && letter <= '9';
        }

        /** Always false: the answer of whoever met the fault. */
        private boolean refuses(int which) {
            fault = which;
            return false;
        }
    }

    /** A HOUSE with its PEOPLE and its lift, as it is at one time. */
    private static final class House {
        static final int MOST_PEOPLE = 6, MOST_SHOWN = 9, MOST_TEMPER = 9;
        static final int CLERK = 1, VAIN = 2, MEEK = 3, CHIEF = 4, HEIR = 5;
        static final int KIND = 0, FLOOR = 1, WANTS = 2, SHOWS = 3;
        static final int NOBODY = -1, NOT = -1;
        private static final int UNKNOWN = -2, SAME_WANT = 9;

        final int[] kind = new int[MOST_PEOPLE];
        final int[] floor = new int[MOST_PEOPLE];
        final int[] wants = new int[MOST_PEOPLE];
        final int[] shows = new int[MOST_PEOPLE];
        final int[] temper = new int[MOST_PEOPLE];
        int people;
        int top;
        int car;
        int rider = NOBODY;
        int brought;
        int step;
        // for whom the car goes: kept, since it is the same until one is BROUGHT or changes;
        // it means nothing while somebody rides
        private int goal = UNKNOWN;

        void begin(int newTop, int newCar) {
            people = 0;
            top = newTop;
            car = newCar;
            rider = NOBODY;
            brought = 0;
            step = 0;
            goal = UNKNOWN;
        }

        void become(House other) {
            System.arraycopy(other.kind, 0, kind, 0, MOST_PEOPLE);
            System.arraycopy(other.floor, 0, floor, 0, MOST_PEOPLE);
            System.arraycopy(other.wants, 0, wants, 0, MOST_PEOPLE);
            System.arraycopy(other.shows, 0, shows, 0, MOST_PEOPLE);
            System.arraycopy(other.temper, 0, temper, 0, MOST_PEOPLE);
            people = other.people;
            top = other.top;
            car = other.car;
            rider = other.rider;
            brought = other.brought;
            step = other.step;
            goal = other.goal;
        }

        void put(int trait, int who, int v) {
            switch (trait) {
                case KIND: kind[who] = v; break;
                case FLOOR: floor[who] = v; break;
                case WANTS: wants[who] = v; break;
                default: shows[who] = v; break;
            }
            goal = UNKNOWN;
        }

        int mostOf(int trait) {
            switch (trait) {
                case KIND: return HEIR;
                case SHOWS: return MOST_SHOWN;
                default: return top;
            }
        }

        void conceal(int set) {
            for (int p = 0; p < people; p++) {
                if ((set >> p & 1) != 0) {
                    put(SHOWS, p, 0);
                }
            }
        }

        int showing() {
            int set = 0;
            for (int p = 0; p < people; p++) {
                set |= shows[p] > 0 ? 1 << p : 0;
            }
            return set;
        }

        boolean isBrought(int who) {
            return (brought >> who & 1) != 0;
        }

        int minding(int one, int other) {
            int more = shows[other] > shows[one] ? shows[other] - shows[one] : 0;
            switch (kind[one]) {
                case CLERK: return more;
                case VAIN: return 2 * more;
                case MEEK: return more > temper[one] ? more - temper[one] : 0;
                case HEIR:
                    if (wants[one] == wants[other]) {
                        return SAME_WANT;
                    }
                    return shows[other] > 0 ? temper[one] : 0;
                default: return shows[other] > 0 ? temper[one] : 0;
            }
        }

        int envy(int who) {
            int sum = 0;
            if (who == rider) {
                return sum;
            }
            for (int p = 0; p < people; p++) {
                if (p != who && p != rider && floor[p] == floor[who]) {
                    sum += minding(p, who);
                }
            }
            return sum;
        }

        /** For whom the car goes, if nobody rides. */
        int goal() {
            if (goal != UNKNOWN) {
                return goal;
            }
            int most = 0;
            goal = NOBODY;
            for (int p = 0; p < people; p++) {
                int envy = isBrought(p) ? 0 : envy(p);
                if (envy > most) {
                    goal = p;
                    most = envy;
                }
            }
            return goal;
        }

        void advance() {
            step++;
            if (rider != NOBODY) {
                carry();
                return;
            }
            int who = goal();
            if (who == NOBODY) {
                return;
            }
            if (car != floor[who]) {
                car += Integer.compare(floor[who], car);
                return;
            }
            rider = who;
        }

        private void carry() {
            if (car != wants[rider]) {
                car += Integer.compare(wants[rider], car);
                floor[rider] = car;
                return;
            }
            brought |= 1 << rider;
            rider = NOBODY;
            goal = UNKNOWN;
        }

        /** Whether no STEP will change anything any more but its number. */
        private boolean rests() {
            return rider == NOBODY && goal() == NOBODY;
        }

        /** Goes on for so many STEPS: behind how many the last one is BROUGHT, 0 if nobody is. */
        int lastWithin(int limit) {
            int last = 0;
            for (int d = 1; d <= limit && !rests(); d++) {
                int before = brought;
                advance();
                last = brought != before ? d : last;
            }
            return last;
        }

        /** Goes on until one is BROUGHT: behind how many STEPS, NOT if it is not so within limit. */
        int until(int who, int limit) {
            for (int d = 0; d < limit && !isBrought(who) && !rests(); d++) {
                advance();
                if (isBrought(who)) {
                    return d + 1;
                }
            }
            return isBrought(who) ? 0 : NOT;
        }

        boolean goesAs(int[] cars, int from, int n) {
            for (int k = from; k < from + n && k < cars.length; k++) {
                advance();
                if (car != cars[k]) {
                    return false;
                }
            }
            return true;
        }

        /** One, drawn by x, goes up or down, or stays. */
        void stray(long x) {
            if (people == 0) {
                return;
            }
            int who = (int) (x % people);
            int next = floor[who];
            if (x % 3 == 0) {
                next++;
            } else if (x % 3 == 1) {
                next--;
            }
            if (who != rider && next >= 0 && next <= top) {
                put(FLOOR, who, next);
            }
        }
    }

    /** What the HOUSE was ahead of each of the latest ACTS, in a ring. */
    private static final class Acts {
        private static final int MOST = 24;

        private final House[] before = new House[MOST];
        private int next;
        int number;

        Acts() {
            for (int k = 0; k < MOST; k++) {
                before[k] = new House();
            }
        }

        void forget() {
            number = 0;
        }

        void keep(House house) {
            before[next].become(house);
            next = (next + 1) % MOST;
            number = Math.min(number + 1, MOST);
        }

        void takeBack(House house) {
            next = (next + MOST - 1) % MOST;
            number--;
            house.become(before[next]);
        }
    }

    /** THE TRACE: the numbers of the first BODIES of an ASK. */
    private static final class Trace {
        private static final int MOST = 16;

        final int[] bodies = new int[MOST];
        int length;

        void leave(int body) {
            if (length < MOST) {
                bodies[length] = body;
                length++;
            }
        }
    }

    /** How those of a KIND answer an ASK; what is here is lent to all of them. */
    private abstract static class Person {
        int size(House house, int who, Trace trace) {
            trace.leave(10);
            return house.wants[who];
        }

        int mark(House house, int who, Trace trace) {
            trace.leave(20);
            return who;
        }
    }

    private static class Clerk extends Person {
        int size(House house, int who, Trace trace) {
            trace.leave(11);
            return super.size(house, who, trace) + mark(house, who, trace);
        }

        int mark(House house, int who, Trace trace) {
            trace.leave(21);
            return super.mark(house, who, trace) + house.envy(who);
        }
    }

    private static final class Vain extends Clerk {
        int size(House house, int who, Trace trace) {
            trace.leave(12);
            return 0 - super.size(house, who, trace);
        }

        int mark(House house, int who, Trace trace) {
            trace.leave(24);
            return super.mark(house, who, trace) * 2;
        }
    }

    private static final class Meek extends Clerk {
        int mark(House house, int who, Trace trace) {
            trace.leave(22);
            return super.mark(house, who, trace) - 1000;
        }
    }

    private static class Chief extends Person {
        int size(House house, int who, Trace trace) {
            trace.leave(13);
            return super.size(house, who, trace) - 100;
        }

        int mark(House house, int who, Trace trace) {
            trace.leave(23);
            return super.mark(house, who, trace) - size(house, who, trace);
        }
    }

    private static final class Heir extends Chief {
        int size(House house, int who, Trace trace) {
            trace.leave(14);
            return super.size(house, who, trace) * 2;
        }
    }
}
