import java.io.IOException;
import java.lang.reflect.Method;
import java.lang.reflect.Modifier;
import java.nio.file.Files;
import java.nio.file.Path;
import java.util.Arrays;
import java.util.Set;
import java.util.TreeSet;
import java.util.regex.Matcher;
import java.util.regex.Pattern;

/** That README.md holds: the answers of its example, its table of calls, the tests it names. */
public final class ReadmeTest {
    public static void main(String[] args) throws ReflectiveOperationException, IOException {
        String page = Files.readString(Path.of("README.md"));
        example(page);
        calls(page);
        refusals(page);
        tests(page);
        Due.end();
    }

    private static void example(String page) throws ReflectiveOperationException {
        Matcher text = Pattern.compile("for \\(char c : \"([^\"]+)\"").matcher(page);
        if (!text.find()) {
            Due.fail("the example tells no house");
            return;
        }
        LiftEnvy lift = new LiftEnvy();
        for (char c : text.group(1).toCharArray()) {
            lift.feed(c);
        }
        Matcher m = Pattern.compile("(?m)^lift\\.(\\w+)\\(([-0-9, ]*)\\); +// (-?\\d+):").matcher(page);
        int answers = 0;
        while (m.find()) {
            answers++;
            Due.is(m.group(1) + "(" + m.group(2) + ")", answer(lift, m.group(1), m.group(2)),
                Integer.parseInt(m.group(3)));
        }
        Due.is("calls of the example", answers, page.split("(?m)^lift\\.").length - 1);
        if (answers == 0) {
            Due.fail("the example has no answers");
        }
    }

    private static int answer(LiftEnvy lift, String name, String numbers)
            throws ReflectiveOperationException {
        Object[] given = numbers.isBlank() ? new Object[0]
            : Arrays.stream(numbers.split(", ")).map(Integer::valueOf).toArray();
        Class<?>[] types = new Class<?>[given.length];
        Arrays.fill(types, int.class);
        return (int) LiftEnvy.class.getMethod(name, types).invoke(lift, given);
    }

    private static void calls(String page) {
        Set<String> told = new TreeSet<>();
        Matcher m = Pattern.compile("(?m)^\\| `(\\w+)\\(([^)]*)\\)` \\|").matcher(page);
        while (m.find()) {
            told.add(m.group(1) + " " + (m.group(2).isEmpty() ? 0 : m.group(2).split(",").length));
        }
        Set<String> there = new TreeSet<>();
        for (Method method : LiftEnvy.class.getDeclaredMethods()) {
            if (Modifier.isPublic(method.getModifiers())) {
                there.add(method.getName() + " " + method.getParameterCount());
            }
        }
        same("calls", told, there);
    }

    private static void refusals(String page) throws ReflectiveOperationException {
        Matcher m = Pattern.compile("(?m)^\\| `([A-Z]+)`, (-\\d+) \\|").matcher(page);
        int told = 0;
        while (m.find()) {
            told++;
            Due.is(m.group(1), LiftEnvy.class.getField(m.group(1)).getInt(null),
                Integer.parseInt(m.group(2)));
        }
        Due.is("refusals told", told, LiftEnvy.class.getFields().length);
    }

    private static void tests(String page) throws IOException {
        Set<String> told = new TreeSet<>();
        Matcher m = Pattern.compile("`(\\w+Test|EdgesOf\\w+)`").matcher(page);
        while (m.find()) {
            told.add(m.group(1));
        }
        Set<String> there = new TreeSet<>();
        try (var files = Files.list(Path.of("src/test/java"))) {
            files.map(f -> f.getFileName().toString().replace(".java", ""))
                .filter(n -> n.endsWith("Test") || n.startsWith("EdgesOf")).forEach(there::add);
        }
        same("tests", told, there);
    }

    private static void same(String of, Set<String> told, Set<String> there) {
        if (!told.equals(there)) {
            Due.fail(of + ": told are " + told + ", there are " + there);
        }
    }
}
