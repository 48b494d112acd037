import java.lang.reflect.Constructor;
import java.lang.reflect.Field;
import java.lang.reflect.Method;
import java.lang.reflect.Modifier;
import java.util.Arrays;
import java.util.Set;
import java.util.TreeSet;

/** The public face is the document's, and nothing else can be seen from outside. */
public final class FaceTest {
    private static final Set<String> METHODS = new TreeSet<>(Arrays.asList(
            "put[int, int]", "drop[int]", "degree[int]", "set[int]", "receive[int, int]", "known[int]",
            "word[int]", "order[int]", "open[int]", "drops[]", "count[]", "clashes[]", "forget[]"));

    public static void main(String[] args) throws ReflectiveOperationException {
        Check check = new Check("FaceTest");
        check.due("BAD", DropCode.BAD, -1);
        check.due("FULL", DropCode.FULL, -2);
        check.due("class modifiers", DropCode.class.getModifiers(), Modifier.PUBLIC | Modifier.FINAL);
        methods(check);
        fields(check);
        Constructor<?>[] made = DropCode.class.getDeclaredConstructors();
        check.due("number of constructors", made.length, 1);
        check.due("DropCode(int) is public", DropCode.class.getDeclaredConstructor(int.class).getModifiers(),
                Modifier.PUBLIC);
        check.end();
    }

    private static void methods(Check check) {
        Set<String> seen = new TreeSet<>();
        for (Method m : DropCode.class.getDeclaredMethods()) {
            if (Modifier.isPrivate(m.getModifiers())) {
                check.due("private " + m.getName() + " bears a public name", bearsPublicName(m) ? 1 : 0, 0);
                continue;
            }
            String types = Arrays.toString(Arrays.stream(m.getParameterTypes()).map(Class::getName).toArray());
            seen.add(m.getName() + types);
            check.due(m.getName() + " is public and of the object", m.getModifiers(), Modifier.PUBLIC);
            check.due(m.getName() + " answers int", m.getReturnType() == int.class ? 1 : 0, 1);
        }
        check.due("methods seen " + seen, seen.equals(METHODS) ? 1 : 0, 1);
    }

    private static boolean bearsPublicName(Method m) {
        return METHODS.stream().anyMatch(face -> face.startsWith(m.getName() + "["));
    }

    private static void fields(Check check) {
        for (Field f : DropCode.class.getDeclaredFields()) {
            boolean constant = f.getName().equals("BAD") || f.getName().equals("FULL");
            boolean asDue = constant ? Modifier.isPublic(f.getModifiers()) : Modifier.isPrivate(f.getModifiers());
            check.due("field " + f.getName() + " is as visible as it may be", asDue ? 1 : 0, 1);
            boolean fixed = !Modifier.isStatic(f.getModifiers()) || Modifier.isFinal(f.getModifiers());
            check.due("field " + f.getName() + " is no static state", fixed ? 1 : 0, 1);
        }
    }
}
