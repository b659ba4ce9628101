import java.lang.reflect.Constructor;
import java.lang.reflect.Field;
import java.lang.reflect.Method;
import java.lang.reflect.Modifier;
import java.util.Arrays;
import java.util.List;
import java.util.TreeSet;

/** The public face is the document's, and nothing else can be seen (LANGUAGE.md, rules 1 and 11). */
final class FaceTest {
    private static final List<String> METHODS = List.of(
            "stretch[int, int]", "carry[int, int, int]", "told[int, int]", "rule[int, int]", "mend[int]",
            "hire[int, int, int]", "shift[int, int]", "ticket[int, int]", "hour[int, int, int, int]",
            "feed[long, int]", "rules[]", "fault[]", "rent[int]", "unpaid[int, int, int]", "walk[int, int]",
            "kind[int]", "as[int, int]", "ask[int, int]", "trace[int]", "count[int]");

    public static void main(String[] args) {
        Due due = new Due();
        due.is("NONE", ChairFront.NONE, -1000000);
        due.is("BAD", ChairFront.BAD, -1000001);
        due.is("STATE", ChairFront.STATE, -1000002);
        due.is("FULL", ChairFront.FULL, -1000003);
        due.is("KIND", ChairFront.KIND, -1000004);

        int modifiers = ChairFront.class.getModifiers();
        due.is("public and final", Modifier.isPublic(modifiers) && Modifier.isFinal(modifiers) ? 1 : 0, 1);

        TreeSet<String> seen = new TreeSet<>();
        TreeSet<String> publicNames = new TreeSet<>();
        for (Method m : ChairFront.class.getDeclaredMethods()) {
            if (!Modifier.isPrivate(m.getModifiers())) {
                seen.add(m.getName() + Arrays.toString(m.getParameterTypes()));
                publicNames.add(m.getName());
                due.is(m + " is public, of the object, and answers an int",
                        Modifier.isPublic(m.getModifiers()) && !Modifier.isStatic(m.getModifiers())
                                && m.getReturnType() == int.class ? 1 : 0, 1);
            }
        }
        due.is("the methods are the document's: " + seen, seen.equals(new TreeSet<>(METHODS)) ? 1 : 0, 1);

        TreeSet<String> constants = new TreeSet<>();
        for (Field f : ChairFront.class.getDeclaredFields()) {
            if (!Modifier.isPrivate(f.getModifiers())) {
                constants.add(f.getName());
            }
        }
        due.is("the constants are the document's: " + constants,
                constants.equals(new TreeSet<>(List.of("NONE", "BAD", "STATE", "FULL", "KIND"))) ? 1 : 0, 1);

        Constructor<?>[] constructors = ChairFront.class.getDeclaredConstructors();
        due.is("constructors", constructors.length, 1);
        due.is("constructor's parameters", Arrays.toString(constructors[0].getParameterTypes()).equals("[int]") ? 1 : 0, 1);

        insideClasses(due, publicNames);
        due.end();
    }

    private static void insideClasses(Due due, TreeSet<String> publicNames) {
        Class<?>[] inside = ChairFront.class.getDeclaredClasses();
        due.is("at most twelve classes", inside.length + 1 <= 12 ? 1 : 0, 1);
        for (Class<?> c : inside) {
            due.is(c + " is static and hidden",
                    Modifier.isStatic(c.getModifiers()) && !Modifier.isPublic(c.getModifiers()) ? 1 : 0, 1);
            for (Method m : c.getDeclaredMethods()) {
                due.is(m + " bears no public name", publicNames.contains(m.getName()) ? 1 : 0, 0);
            }
        }
        for (Method m : ChairFront.class.getDeclaredMethods()) {
            due.is(m + " has a name that is public or its own",
                    Modifier.isPrivate(m.getModifiers()) && publicNames.contains(m.getName()) ? 1 : 0, 0);
        }
    }
}
