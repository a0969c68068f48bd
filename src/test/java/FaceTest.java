import java.lang.reflect.Constructor;
import java.lang.reflect.Field;
import java.lang.reflect.Method;
import java.lang.reflect.Modifier;
import java.util.Set;
import java.util.TreeSet;

/** "The public face" and rule 1: what the class shows, and nothing beside it. */
public final class FaceTest {
    private static final String[] METHODS = {
        "row 3", "set 3", "copy 5", "drop 1", "feed 1", "house 0", "fault 0", "steps 1", "show 2",
        "walk 2", "undo 0", "person 2", "minds 2", "car 1", "ahead 2", "when 1", "first 1",
        "never 0", "least 2", "hide 1", "beside 2", "fits 5", "hidden 4", "drawn 3", "image 1",
        "restore 1", "kind 1", "as 2", "ask 2", "trace 1", "count 1", "status 0"};

    public static void main(String[] args) {
        Due.is("NONE", LiftEnvy.NONE, -1000000);
        Due.is("BAD", LiftEnvy.BAD, -1000001);
        Due.is("STATE", LiftEnvy.STATE, -1000002);
        Due.is("FULL", LiftEnvy.FULL, -1000003);
        if (!Modifier.isFinal(LiftEnvy.class.getModifiers())) {
            Due.fail("the class is not final");
        }
        methods();
        fields();
        Constructor<?>[] constructors = LiftEnvy.class.getDeclaredConstructors();
        Due.is("constructors", constructors.length, 1);
        Due.is("its parameters", constructors[0].getParameterCount(), 0);
        Due.end();
    }

    private static void methods() {
        Set<String> due = new TreeSet<>(Set.of(METHODS));
        Set<String> names = new TreeSet<>();
        for (String method : METHODS) {
            names.add(method.substring(0, method.indexOf(' ')));
        }
        for (Method m : LiftEnvy.class.getDeclaredMethods()) {
            boolean isPrivate = Modifier.isPrivate(m.getModifiers());
            String face = m.getName() + " " + m.getParameterCount();
            if (isPrivate && names.contains(m.getName())) {
                Due.fail("a private method bears a public name: " + m);
            }
            if (!isPrivate && (m.getReturnType() != int.class || !due.remove(face))) {
                Due.fail("not of the face: " + m);
            }
        }
        if (!due.isEmpty()) {
            Due.fail("missing: " + due);
        }
    }

    private static void fields() {
        Set<String> constants = Set.of("NONE", "BAD", "STATE", "FULL");
        for (Field f : LiftEnvy.class.getDeclaredFields()) {
            if (!Modifier.isPrivate(f.getModifiers()) && !constants.contains(f.getName())) {
                Due.fail("not of the face: " + f);
            }
            if (Modifier.isStatic(f.getModifiers()) && !Modifier.isFinal(f.getModifiers())) {
                Due.fail("static, but not final: " + f);
            }
        }
    }
}
