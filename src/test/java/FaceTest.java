import java.lang.reflect.Constructor;
import java.lang.reflect.Field;
import java.lang.reflect.Method;
import java.lang.reflect.Modifier;
import java.util.Arrays;
import java.util.List;
import java.util.TreeSet;

/** The face: the members that the document names, and none beside them that can be seen from outside. */
public final class FaceTest {
    private static final List<String> METHODS = List.of(
            "int feed(int, int, int, int, int)", "boolean end(int)", "int plans()", "int fault()",
            "int plan(int, int)", "int name(int)", "int octet(int)", "int uses(int, int, int)",
            "int use(int, int, int)", "boolean change(int)", "long cost(int, int, int, int)",
            "long bill(int, int, int, long)", "long best(int, int, int)", "int had(int)", "long bills()",
            "int group(int)", "boolean span(int, int, int)", "long above(int, int, boolean)", "int count(int)");

    public static void main(String[] args) {
        Class<?> face = TariffDesk.class;
        Check.due("final class", Modifier.isFinal(face.getModifiers()), true);
        TreeSet<String> seen = new TreeSet<>();
        TreeSet<String> publicNames = new TreeSet<>();
        TreeSet<String> privateNames = new TreeSet<>();
        for (Method method : face.getDeclaredMethods()) {
            if (Modifier.isPrivate(method.getModifiers()) || method.isSynthetic()) {
                privateNames.add(method.getName());
            } else {
                seen.add(method.getReturnType() + " " + method.getName() + list(method.getParameterTypes()));
                publicNames.add(method.getName());
            }
        }
        Check.due("methods " + seen, seen.equals(new TreeSet<>(METHODS)), true);
        privateNames.retainAll(publicNames);
        Check.due("private methods with a public name " + privateNames, privateNames.size(), 0);
        for (Constructor<?> constructor : face.getDeclaredConstructors()) {
            Check.due("public constructor without parameters",
                    Modifier.isPublic(constructor.getModifiers()) && constructor.getParameterCount() == 0, true);
        }
        for (Field field : face.getDeclaredFields()) {
            boolean none = field.getName().equals("NONE");
            Check.due("field " + field.getName(), Modifier.isPublic(field.getModifiers()), none);
            Check.due("hidden field " + field.getName(), Modifier.isPrivate(field.getModifiers()), !none);
        }
        for (Class<?> inside : face.getDeclaredClasses()) {
            Check.due("static class " + inside, Modifier.isStatic(inside.getModifiers()), true);
            Check.due("public class " + inside, Modifier.isPublic(inside.getModifiers()), false);
        }
        Check.due("NONE", TariffDesk.NONE, -1);
        Check.finish();
    }

    private static String list(Class<?>[] types) {
        return Arrays.toString(types).replace('[', '(').replace(']', ')');
    }
}
