import java.lang.reflect.InvocationTargetException;
import java.lang.reflect.Method;
import java.util.ArrayList;
import java.util.Comparator;
import java.util.List;
import java.util.Random;

/** All promises: runs of calls, right and wrong ones, on an object and on the model at once. */
public final class RandomRunsTest {
    private static final int CALLS = 512;
    private static final int[] FAR_OFF = {
        Integer.MIN_VALUE, Integer.MAX_VALUE, -1, 7, 10, 11, 17, 25, 41, 61, 256, 1000000};

    private final Random random;
    private final LiftEnvy x = new LiftEnvy();
    private final Model model = new Model();
    private final List<Method> methods = new ArrayList<>();
    private final StringBuilder calls = new StringBuilder();
    private int number;
    private int people = 6;
    private String firstWrong;

    private RandomRunsTest(long seed) {
        random = new Random(seed);
        for (Method m : LiftEnvy.class.getDeclaredMethods()) {
            if (java.lang.reflect.Modifier.isPublic(m.getModifiers())) {
                methods.add(m);
            }
        }
        methods.sort(Comparator.comparing(Method::getName));
    }

    public static void main(String[] args) {
        int runs = Integer.getInteger("lift.runs", 400);
        for (int seed = 1; seed <= runs; seed++) {
            String wrong = new RandomRunsTest(seed).run();
            if (wrong != null) {
                Due.fail("run " + seed + ": " + wrong);
                break;
            }
        }
        Due.end();
    }

    private String run() {
        while (firstWrong == null && number < CALLS) {
            if (number == 0 ? random.nextInt(9) > 0 : random.nextInt(90) == 0) {
                tell(text());
            } else {
                Method m = methods.get(random.nextInt(methods.size()));
                boolean rare = List.of("house", "restore", "feed").contains(m.getName());
                if (!rare || random.nextInt(5) == 0) {
                    both(m, numbersOf(m.getName()));
                }
            }
        }
        return firstWrong;
    }

    private void tell(String text) {
        for (int k = 0; k < text.length(); k++) {
            both(named("feed"), text.charAt(k));
        }
        both(named("house"));
    }

    private Method named(String name) {
        return methods.stream().filter(m -> m.getName().equals(name)).findFirst().orElseThrow();
    }

    private String text() {
        int top = 1 + random.nextInt(random.nextBoolean() ? 3 : 9);
        people = random.nextInt(4) > 0 ? 4 + random.nextInt(3) : random.nextInt(8);
        StringBuilder text = new StringBuilder("f" + top + "," + random.nextInt(top + 1) + ";");
        int crowd = 1 + random.nextInt(top + 1);
        for (int p = 0; p < people; p++) {
            text.append("cvmhe".charAt(random.nextInt(5))).append(random.nextInt(crowd)).append(',')
                .append(random.nextInt(top + 1)).append(',').append(random.nextInt(10)).append(',')
                .append(random.nextInt(10)).append(';');
        }
        people = Math.min(people, 6);
        return random.nextInt(4) == 0 ? spoilt(text) : text.toString();
    }

    private String spoilt(StringBuilder text) {
        int at = random.nextInt(text.length());
        char sign = random.nextInt(4) == 0 ? (char) random.nextInt(256)
            : "0123456789,;fcvmhex ".charAt(random.nextInt(20));
        switch (random.nextInt(4)) {
            case 0: text.setCharAt(at, sign); break;
            case 1: text.insert(at, sign); break;
            case 2: text.deleteCharAt(at); break;
            default: text.setLength(at); break;
        }
        return text.toString();
    }

    private int[] numbersOf(String name) {
        int[] a = likely(name);
        if (a.length > 0 && random.nextInt(12) == 0) {
            a[random.nextInt(a.length)] = FAR_OFF[random.nextInt(FAR_OFF.length)];
        }
        return a;
    }

    private int one() {
        return people == 0 ? 0 : random.nextInt(people);
    }

    private int upTo(int most) {
        return random.nextInt(most + 1);
    }

    private int[] likely(String name) {
        switch (name) {
            case "row": return new int[] {upTo(3), upTo(2), upTo(1) == 0 ? 20 + upTo(20) : upTo(40)};
            case "set": return new int[] {upTo(3), upTo(24),
                upTo(3) == 0 ? random.nextInt() : upTo(9)};
            case "copy": return new int[] {upTo(3), upTo(8), upTo(3), upTo(8), upTo(20)};
            case "drop": return new int[] {upTo(7)};
            case "feed": return new int[] {upTo(255)};
            case "steps": return new int[] {1 + upTo(upTo(4) == 0 ? 23 : 6)};
            case "show": return new int[] {one(), upTo(9)};
            case "walk": return new int[] {one(), upTo(1)};
            case "person": return new int[] {one(), upTo(5)};
            case "minds": return new int[] {one(), one()};
            case "car": return new int[] {upTo(3)};
            case "ahead": return new int[] {upTo(60), upTo(2)};
            case "least": return new int[] {one(), upTo(60)};
            case "beside": return new int[] {one(), upTo(1)};
            case "hidden": return new int[] {one(), upTo(60), upTo(10), upTo(1)};
            case "drawn": return new int[] {upTo(60), 1 + upTo(999998), upTo(1)};
            case "as": return new int[] {one(), upTo(5)};
            case "ask": return new int[] {one(), upTo(1)};
            case "when", "kind": return new int[] {one()};
            case "trace": return new int[] {upTo(7)};
            case "count": return new int[] {upTo(6)};
            case "first", "hide", "image", "restore": return new int[] {upTo(1)};
            case "fits": return likelyFits();
            default: return new int[0];
        }
    }

    /** Where the car really goes is put into the row ahead, else hardly any answer is not 0. */
    private int[] likelyFits() {
        int n = 1 + upTo(15);
        if (upTo(3) > 0) {
            both(named("row"), 0, upTo(2), 20);
            for (int k = 1; k <= n; k++) {
                both(named("set"), 0, k, model.call("ahead", new int[] {k, 0}));
            }
            return new int[] {one(), 0, 1, n, upTo(2)};
        }
        return new int[] {one(), upTo(3), upTo(10), n, upTo(2)};
    }

    private void both(Method m, int... numbers) {
        if (firstWrong != null || number >= CALLS) {
            return;
        }
        Object[] boxed = new Object[numbers.length];
        for (int k = 0; k < numbers.length; k++) {
            boxed[k] = numbers[k];
        }
        number++;
        calls.append(m.getName()).append(List.of(boxed)).append(' ');
        int due = model.call(m.getName(), numbers);
        try {
            int got = (int) m.invoke(x, boxed);
            firstWrong = got == due ? null : calls + "answered " + got + ", due is " + due;
        } catch (InvocationTargetException | IllegalAccessException e) {
            firstWrong = calls + "threw " + e.getCause();
        }
    }
}
