import java.math.BigInteger;
import java.util.ArrayDeque;
import java.util.ArrayList;
import java.util.Comparator;
import java.util.List;
import java.util.Map;
import java.util.TreeMap;
import java.util.function.UnaryOperator;
import java.util.regex.Matcher;
import java.util.regex.Pattern;
import java.util.stream.IntStream;

/**
 * The document once more, written without a look at how the class does it: values that never
 * change, sets as collections, every foretelling step by step. Slow, and only for the tests.
 */
final class Model {
    private static final int NONE = -1000000, BAD = -1000001, STATE = -1000002, FULL = -1000003;

    /** Thrown with the answer of a call that is refused. */
    private static final class Refused extends RuntimeException {
        private static final long serialVersionUID = 1L;
        final int answer;

        Refused(int answer) {
            super(null, null, false, false);
            this.answer = answer;
        }
    }

    private record One(char sort, int floor, int wants, int shows, int temper, boolean brought) {
        One atFloor(int f) {
            return new One(sort, f, wants, shows, temper, brought);
        }

        One showing(int s) {
            return new One(sort, floor, wants, s, temper, brought);
        }

        One wanting(int w) {
            return new One(sort, floor, w, shows, temper, brought);
        }

        One sorted(char s) {
            return new One(s, floor, wants, shows, temper, brought);
        }

        One done() {
            return new One(sort, floor, wants, shows, temper, true);
        }

        int minds(One o) {
            int more = o.shows > shows ? o.shows - shows : 0;
            int chiefs = o.shows == 0 ? 0 : temper;
            return switch (sort) {
                case 'c' -> more;
                case 'v' -> more + more;
                case 'm' -> more > temper ? more - temper : 0;
                case 'h' -> chiefs;
                case 'e' -> o.wants == wants ? 9 : chiefs;
                default -> throw new IllegalStateException();
            };
        }
    }

    private record World(int top, int car, Integer rider, int step, List<One> ones) {
        World with(int who, UnaryOperator<One> change) {
            List<One> changed = new ArrayList<>(ones);
            changed.set(who, change.apply(changed.get(who)));
            return new World(top, car, rider, step, changed);
        }

        int floorOf(int who) {
            return rider != null && rider == who ? car : ones.get(who).floor;
        }

        int envy(int who) {
            if (rider != null && rider == who) {
                return 0;
            }
            return IntStream.range(0, ones.size())
                .filter(o -> o != who && (rider == null || rider != o))
                .filter(o -> ones.get(o).floor == ones.get(who).floor)
                .map(o -> ones.get(o).minds(ones.get(who))).sum();
        }

        Integer target() {
            Integer best = null;
            for (int w = ones.size() - 1; w >= 0; w--) {
                boolean may = !ones.get(w).brought && envy(w) >= 1;
                if (may && (best == null || envy(w) >= envy(best))) {
                    best = w;
                }
            }
            return best;
        }

        World moved(int to) {
            return new World(top, car + Integer.signum(to - car), rider, step + 1, ones);
        }

        World next() {
            if (rider != null) {
                One r = ones.get(rider);
                if (r.wants != car) {
                    return moved(r.wants);
                }
                World off = with(rider, o -> o.atFloor(car).done());
                return new World(top, car, null, step + 1, off.ones);
            }
            Integer who = target();
            if (who == null) {
                return new World(top, car, null, step + 1, ones);
            }
            int there = ones.get(who).floor;
            return there == car ? new World(top, car, who, step + 1, ones) : moved(there);
        }

        World after(int d) {
            World w = this;
            for (int k = 0; k < d; k++) {
                w = w.next();
            }
            return w;
        }

        int brought() {
            return IntStream.range(0, ones.size()).map(p -> ones.get(p).brought ? 1 << p : 0).sum();
        }

        /** Behind how many STEPS, up to d; null: not within d. */
        Integer when(int who, int d) {
            World w = this;
            for (int k = 0; k <= d; k++) {
                if (w.ones.get(who).brought) {
                    return k;
                }
                w = w.next();
            }
            return null;
        }

        World hiding(int set) {
            World w = this;
            for (int p = 0; p < ones.size(); p++) {
                w = (set & 1 << p) == 0 ? w : w.with(p, o -> o.showing(0));
            }
            return w;
        }
    }

    private record Line(int lane, int[] items) {
    }

    private record Choice(int set, int count, int last) {
    }

    private final Map<Integer, Line> rows = new TreeMap<>();
    private final Map<Integer, World> images = new TreeMap<>();
    private final ArrayDeque<World> acts = new ArrayDeque<>();
    private final List<Integer> left = new ArrayList<>();
    private final StringBuilder tape = new StringBuilder();
    private World world;
    private int fault;
    private int status;

    private static void bad(boolean is) {
        if (is) {
            throw new Refused(BAD);
        }
    }

    private static void state(boolean is) {
        if (is) {
            throw new Refused(STATE);
        }
    }

    private void find(boolean is, int number) {
        if (is) {
            status = number;
            throw new Refused(-1000010 - number);
        }
    }

    private static boolean out(int v, int least, int most) {
        return v < least || v > most;
    }

    private One one(int person) {
        bad(world == null || out(person, 0, world.ones.size() - 1));
        return world.ones.get(person);
    }

    private void act() {
        acts.push(world);
        if (acts.size() > 24) {
            acts.removeLast();
        }
    }

    private static int orNone(Integer v) {
        return v == null ? NONE : v;
    }

    /** What a call answers; the name and the numbers as the document has them. */
    int call(String name, int[] a) {
        try {
            return switch (name) {
                case "row", "set", "copy", "drop" -> ofRows(name, a);
                case "feed", "house", "fault" -> ofText(name, a);
                case "steps", "show", "walk", "undo" -> ofActs(name, a);
                case "person", "minds", "car" -> ofHouse(name, a);
                case "ahead", "when", "first", "never", "least", "hide", "beside" ->
                    ofTime(name, a);
                case "fits" -> fits(a[0], a[1], a[2], a[3], a[4]);
                case "hidden" -> hidden(a[0], a[1], a[2], a[3]);
                case "drawn" -> drawn(a[0], a[1], a[2]);
                default -> ofRest(name, a);
            };
        } catch (Refused r) {
            return r.answer;
        }
    }

    private int ofRows(String name, int[] a) {
        bad(out(a[0], 0, 7));
        int answer;
        if (name.equals("row")) {
            bad(out(a[1], 0, 2) || a[2] > 40);
            find(a[2] < 0, 4);
            rows.put(a[0], new Line(a[1], new int[a[2]]));
            answer = a[2];
        } else if (name.equals("copy")) {
            bad(out(a[2], 0, 7));
            Line from = rows.get(a[0]);
            Line to = rows.get(a[2]);
            find(from == null || to == null, 1);
            find(from.lane != to.lane, 5);
            find(a[1] < 0 || a[3] < 0 || a[4] < 0, 2);
            find((long) a[1] + a[4] > from.items.length, 2);
            find((long) a[3] + a[4] > to.items.length, 2);
            int[] old = from.items.clone();
            for (int k = 0; k < a[4]; k++) {
                to.items[a[3] + k] = old[a[1] + k];
            }
            answer = a[4];
        } else {
            Line line = rows.get(a[0]);
            find(line == null, 1);
            if (name.equals("drop")) {
                rows.remove(a[0]);
                answer = line.items.length;
            } else {
                find(out(a[1], 0, line.items.length - 1), 2);
                int bits = 32 - (8 << line.lane);
                answer = a[2] << bits >> bits;
                line.items[a[1]] = answer;
            }
        }
        status = 0;
        return answer;
    }

    private int ofText(String name, int[] a) {
        if (name.equals("fault")) {
            return fault;
        }
        if (name.equals("feed")) {
            bad(out(a[0], 0, 255));
            if (tape.length() == 120) {
                return FULL;
            }
            return tape.append((char) a[0]).length();
        }
        String text = tape.toString();
        tape.setLength(0);
        return read(text);
    }

    /** All tokens first, then the place of each in the grammar. */
    private int read(String text) {
        List<String> tokens = new ArrayList<>();
        List<Integer> places = new ArrayList<>();
        Matcher m = Pattern.compile("[0-9]+|(?s:.)").matcher(text);
        while (m.find()) {
            tokens.add(m.group());
            places.add(m.start());
        }
        int top = 0;
        List<Integer> numbers = new ArrayList<>();
        for (int t = 0; t <= tokens.size(); t++) {
            boolean end = t == tokens.size();
            int place = end ? text.length() : places.get(t);
            String form = formOf(t);
            if (end) {
                if (t >= 5 && (t - 5) % 9 == 0) {
                    break;
                }
                return faulty(1, place);
            }
            String token = tokens.get(t);
            if (!token.matches(form)) {
                return faulty(1, place);
            }
            if (form.startsWith("[0")) {
                int v = Integer.parseInt(token);
                int[] range = rangeOf(t, top);
                if (out(v, range[0], range[1])) {
                    return faulty(2, place);
                }
                top = t == 1 ? v : top;
                numbers.add(v);
            } else if (t == 5 + 6 * 9) {
                return faulty(3, place);
            }
        }
        List<One> ones = new ArrayList<>();
        for (int k = 2; k < numbers.size(); k += 4) {
            char sort = tokens.get(5 + (k - 2) / 4 * 9).charAt(0);
            ones.add(new One(sort, numbers.get(k), numbers.get(k + 1), numbers.get(k + 2),
                numbers.get(k + 3), false));
        }
        world = new World(top, numbers.get(1), null, 0, ones);
        acts.clear();
        return ones.size();
    }

    private static String formOf(int t) {
        String number = "[0-9]{1,2}";
        if (t < 5) {
            return List.of("f", number, ",", number, ";").get(t);
        }
        return List.of("[cvmhe]", number, ",", number, ",", number, ",", number, ";")
            .get((t - 5) % 9);
    }

    private static int[] rangeOf(int t, int top) {
        if (t == 1) {
            return new int[] {1, 9};
        }
        boolean floor = t == 3 || (t - 5) % 9 == 1 || (t - 5) % 9 == 3;
        return new int[] {0, floor ? top : 9};
    }

    private int faulty(int number, int place) {
        fault = number;
        return -1000100 - place;
    }

    private int ofActs(String name, int[] a) {
        switch (name) {
            case "steps":
                state(world == null);
                bad(out(a[0], 1, 24));
                if (world.step + a[0] > 999) {
                    return FULL;
                }
                for (int k = 0; k < a[0]; k++) {
                    act();
                    world = world.next();
                }
                return world.car;
            case "show":
                One o = one(a[0]);
                bad(out(a[1], 0, 9));
                act();
                world = world.with(a[0], p -> p.showing(a[1]));
                return o.shows;
            case "walk":
                One w = one(a[0]);
                bad(out(a[1], 0, 1));
                state(world.rider != null && world.rider == a[0]);
                int to = w.floor + 2 * a[1] - 1;
                state(out(to, 0, world.top));
                act();
                world = world.with(a[0], p -> p.atFloor(to));
                return to;
            default:
                state(acts.isEmpty());
                world = acts.pop();
                return acts.size();
        }
    }

    private int ofHouse(String name, int[] a) {
        if (name.equals("car")) {
            state(world == null);
            bad(out(a[0], 0, 3));
            return switch (a[0]) {
                case 0 -> world.car;
                case 1 -> orNone(world.rider);
                case 2 -> world.rider != null ? NONE : orNone(world.target());
                default -> world.brought();
            };
        }
        One o = one(a[0]);
        if (name.equals("minds")) {
            One other = one(a[1]);
            bad(a[0] == a[1]);
            return o.minds(other);
        }
        bad(out(a[1], 0, 5));
        return new int[] {world.floorOf(a[0]), o.wants, o.shows, o.temper, world.envy(a[0]),
            o.brought ? 1 : 0}[a[1]];
    }

    private int ofTime(String name, int[] a) {
        switch (name) {
            case "ahead":
                state(world == null);
                bad(out(a[0], 0, 60) || out(a[1], 0, 2));
                World w = world.after(a[0]);
                return a[1] == 0 ? w.car : a[1] == 1 ? orNone(w.rider) : w.brought();
            case "when":
                one(a[0]);
                return orNone(world.when(a[0], 99));
            case "first":
                state(world == null);
                bad(out(a[0], 0, 1));
                return IntStream.range(0, world.ones.size())
                    .filter(p -> !world.ones.get(p).brought && world.when(p, 99) != null).boxed()
                    .min(Comparator.comparing(p -> world.when(p, 99)))
                    .map(p -> a[0] == 0 ? p : world.when(p, 99)).orElse(NONE);
            case "never":
                state(world == null);
                return (1 << world.ones.size()) - 1 - world.after(99).brought();
            case "least":
                One o = one(a[0]);
                bad(out(a[1], 0, 60));
                state(o.brought);
                return IntStream.rangeClosed(0, 9)
                    .filter(v -> world.with(a[0], p -> p.showing(v)).when(a[0], a[1]) != null)
                    .findFirst().orElse(NONE);
            case "hide":
                return hide(a[0]);
            default:
                return beside(a[0], a[1]);
        }
    }

    private int hide(int what) {
        state(world == null);
        bad(out(what, 0, 1));
        Choice best = IntStream.range(0, 1 << world.ones.size()).mapToObj(this::choice)
            .min(Comparator.comparing((Choice c) -> -c.count).thenComparing(Choice::last)
                .thenComparing(c -> Integer.bitCount(c.set)).thenComparing(Choice::set))
            .orElseThrow();
        return what == 0 ? best.count : best.set;
    }

    private Choice choice(int set) {
        World w = world.hiding(set);
        int last = 0;
        int count = 0;
        for (int p = 0; p < w.ones.size(); p++) {
            Integer d = w.when(p, 99);
            count += d == null ? 0 : 1;
            last = d == null ? last : Math.max(last, d);
        }
        return new Choice(set, count, last);
    }

    private int beside(int person, int what) {
        One o = one(person);
        bad(out(what, 0, 1));
        state(o.brought || world.rider != null && world.rider == person);
        int bestFloor = NONE;
        int bestTime = NONE;
        for (int f = world.top; f >= 0; f--) {
            int there = f;
            Integer d = world.with(person, p -> p.atFloor(there)).when(person, 99);
            if (d != null && (bestTime == NONE || d <= bestTime)) {
                bestFloor = f;
                bestTime = d;
            }
        }
        return what == 0 ? bestFloor : bestTime;
    }

    private int fits(int person, int row, int i, int n, int what) {
        one(person);
        bad(out(row, 0, 7) || out(n, 1, 16) || out(what, 0, 2));
        Line line = rows.get(row);
        find(line == null, 1);
        find(i < 0 || (long) i + n > line.items.length, 2);
        status = 0;
        int bits = 0;
        for (int v = 0; v <= 9; v++) {
            int value = v;
            if (what == 0 && out(v, 1, 5) || what == 2 && v > world.top) {
                continue;
            }
            World w = world.with(person, p -> what == 0 ? p.sorted("-cvmhe".charAt(value))
                : what == 1 ? p.showing(value) : p.wanting(value));
            boolean so = IntStream.rangeClosed(1, n)
                .allMatch(k -> w.after(k).car == line.items[i + k - 1]);
            bits += so ? 1 << v : 0;
        }
        return bits;
    }

    private int hidden(int person, int d, int c, int what) {
        one(person);
        bad(out(d, 0, 60) || out(c, 0, 10) || out(what, 0, 1));
        BigInteger above = chance(world, 0, person, d, c);
        BigInteger below = BigInteger.TEN.pow(world.ones.size());
        BigInteger common = above.gcd(below);
        return (what == 0 ? above : below).divide(common).intValueExact();
    }

    /** By 10 to the power of how many there are, whether they show anything or not. */
    private static BigInteger chance(World w, int from, int person, int d, int c) {
        if (from == w.ones.size()) {
            return w.when(person, d) != null ? BigInteger.ONE : BigInteger.ZERO;
        }
        BigInteger shown = chance(w, from + 1, person, d, c);
        if (w.ones.get(from).shows == 0) {
            return shown.multiply(BigInteger.TEN);
        }
        BigInteger unseen = chance(w.with(from, o -> o.showing(0)), from + 1, person, d, c);
        return shown.multiply(BigInteger.valueOf(10 - c)).add(unseen.multiply(BigInteger.valueOf(c)));
    }

    private int drawn(int n, int seed, int what) {
        state(world == null);
        bad(out(n, 0, 60) || out(seed, 1, 999999) || out(what, 0, 1));
        World w = world;
        BigInteger x = BigInteger.valueOf(seed);
        for (int k = 0; k < n; k++) {
            x = x.multiply(BigInteger.valueOf(16807)).mod(BigInteger.valueOf(2147483647));
            int number = x.intValueExact();
            int who = w.ones.isEmpty() ? -1 : number % w.ones.size();
            if (who >= 0 && (w.rider == null || w.rider != who)) {
                int to = w.ones.get(who).floor + new int[] {1, -1, 0}[number % 3];
                w = out(to, 0, w.top) ? w : w.with(who, o -> o.atFloor(to));
            }
            w = w.next();
        }
        return what == 0 ? Integer.bitCount(w.brought()) : w.car;
    }

    private int ofRest(String name, int[] a) {
        switch (name) {
            case "image":
                bad(out(a[0], 0, 1));
                state(world == null);
                images.put(a[0], world);
                return 1;
            case "restore":
                bad(out(a[0], 0, 1));
                state(!images.containsKey(a[0]));
                world = images.get(a[0]);
                acts.clear();
                return 1;
            case "kind":
                return "-cvmhe".indexOf(one(a[0]).sort);
            case "as":
                char sort = one(a[0]).sort;
                bad(out(a[1], 0, 5));
                find(List.of("cvmhe", "cvm", "v", "m", "he", "e").get(a[1]).indexOf(sort) < 0, 3);
                status = 0;
                return a[0];
            case "ask":
                one(a[0]);
                bad(out(a[1], 0, 1));
                left.clear();
                return a[1] == 0 ? size(a[0], -1) : mark(a[0], -1);
            case "trace":
                return out(a[0], 0, Math.min(left.size(), 16) - 1) ? NONE : left.get(a[0]);
            case "count":
                return count(a[0]);
            case "status":
                return status;
            default:
                throw new IllegalStateException(name);
        }
    }

    /** One body of SIZE: the one named, or (-1) that with which an ask of one begins. */
    private int size(int who, int named) {
        int body = named >= 0 ? named : switch (world.ones.get(who).sort) {
            case 'v' -> 12;
            case 'h' -> 13;
            case 'e' -> 14;
            default -> 11;
        };
        left.add(body);
        return switch (body) {
            case 10 -> world.ones.get(who).wants;
            case 11 -> size(who, 10) + mark(who, -1);
            case 12 -> -size(who, 11);
            case 13 -> size(who, 10) - 100;
            default -> 2 * size(who, 13);
        };
    }

    private int mark(int who, int named) {
        int body = named >= 0 ? named : switch (world.ones.get(who).sort) {
            case 'c' -> 21;
            case 'v' -> 24;
            case 'm' -> 22;
            default -> 23;
        };
        left.add(body);
        return switch (body) {
            case 20 -> who;
            case 21 -> mark(who, 20) + world.envy(who);
            case 22 -> mark(who, 21) - 1000;
            case 23 -> mark(who, 20) - size(who, -1);
            default -> 2 * mark(who, 21);
        };
    }

    private int count(int what) {
        bad(out(what, 0, 6));
        boolean none = world == null;
        return switch (what) {
            case 0 -> rows.size();
            case 1 -> none ? 0 : world.ones.size();
            case 2 -> none ? 0 : world.step;
            case 3 -> none ? 0 : world.top;
            case 4 -> none ? 0 : Integer.bitCount(world.brought());
            case 5 -> acts.size();
            default -> tape.length();
        };
    }
}
