import java.lang.reflect.Method;
import java.lang.reflect.Modifier;
import java.util.ArrayList;
import java.util.Arrays;
import java.util.Comparator;
import java.util.List;

/** The calls of the face by their names, so that a table can tell them; a boolean argument is 1 or 0. */
final class Calls {
    private Calls() {
    }

    static List<Method> all() {
        List<Method> all = new ArrayList<>();
        for (Method m : FourWaters.class.getDeclaredMethods()) {
            if (Modifier.isPublic(m.getModifiers())) {
                all.add(m);
            }
        }
        all.sort(Comparator.comparing(Method::getName));
        return all;
    }

    static long call(FourWaters x, Method m, int... a) {
        try {
            return ((Number) m.invoke(x, boxed(m, a))).longValue();
        } catch (ReflectiveOperationException e) {
            throw new IllegalStateException(told(m.getName(), a), e);
        }
    }

    static long call(FourWaters x, String name, int... a) {
        for (Method m : all()) {
            if (m.getName().equals(name)) {
                return call(x, m, a);
            }
        }
        throw new IllegalStateException(name);
    }

    static String told(String name, int... a) {
        String row = Arrays.toString(a);
        return name + "(" + row.substring(1, row.length() - 1) + ")";
    }

    private static Object[] boxed(Method m, int[] a) {
        Object[] row = new Object[a.length];
        for (int i = 0; i < a.length; i++) {
            row[i] = m.getParameterTypes()[i] == boolean.class ? (Object) (a[i] == 1) : (Object) a[i];
        }
        return row;
    }
}
