import java.io.IOException;
import java.lang.reflect.InvocationTargetException;
import java.lang.reflect.Method;
import java.nio.file.Files;
import java.nio.file.Path;
import java.util.Arrays;
import java.util.Comparator;

/** All promises: runs the test of each boundary case that a sentence of the document names. */
public final class EdgesTest {
    private static final Class<?>[] EDGES = {
        EdgesOfTerms.class, EdgesOfRows.class, EdgesOfTexts.class, EdgesOfActs.class,
        EdgesOfForetold.class, EdgesOfAsked.class};
    private static final int PROMISES = 33;

    private final int[] tests = new int[PROMISES + 1];
    private final String document;

    private EdgesTest(String document) {
        this.document = document;
    }

    public static void main(String[] args) throws IOException {
        Path doc = Path.of(System.getProperty("lift.doc", "../shared/DOC.md"));
        EdgesTest edges = new EdgesTest(Files.isReadable(doc) ? plain(Files.readString(doc)) : "");
        for (Class<?> c : EDGES) {
            edges.run(c);
        }
        edges.tell();
        Due.end();
    }

    private static String plain(String text) {
        return text.replaceAll("\\s+", " ");
    }

    private void run(Class<?> c) {
        Method[] methods = c.getDeclaredMethods();
        Arrays.sort(methods, Comparator.comparing(Method::getName));
        for (Method m : methods) {
            Says says = m.getAnnotation(Says.class);
            if (says != null) {
                run(m, says);
            } else if (m.getParameterCount() == 0 && m.getReturnType() == void.class) {
                Due.fail("a test without its sentence: " + m);
            }
        }
    }

    private void run(Method m, Says says) {
        tests[says.promise()]++;
        Due.about("promise " + says.promise() + ", \"" + says.text() + "\", " + m.getName());
        // no failure: the document may be told in other words, and mean the same
        if (!document.contains(plain(says.text()))) {
            System.out.println("not in the document: " + says.text() + " (" + m.getName() + ")");
        }
        try {
            m.invoke(null);
        } catch (InvocationTargetException e) {
            Due.fail("threw " + e.getCause());
        } catch (IllegalAccessException e) {
            Due.fail("can't be run: " + m);
        }
    }

    private void tell() {
        Due.about("all promises");
        for (int p = 0; p <= PROMISES; p++) {
            if (tests[p] == 0) {
                Due.fail("promise " + p + " has no test of a boundary case");
            }
        }
        System.out.println(Arrays.stream(tests).sum() + " boundary cases");
    }
}
