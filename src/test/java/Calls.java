import java.lang.reflect.InvocationTargetException;
import java.lang.reflect.Method;

/** Calls by their names: what the tests of boundary cases share. */
final class Calls {
    private Calls() {
    }

    /** A boolean is told, and answered, as 1 or 0. */
    static long call(BathWater x, String name, int... values) {
        for (Method m : BathWater.class.getMethods()) {
            if (m.getName().equals(name) && m.getDeclaringClass() == BathWater.class) {
                return invoke(x, m, values);
            }
        }
        throw new IllegalArgumentException("there is no " + name);
    }

    private static long invoke(BathWater x, Method m, int[] values) {
        Object[] given = new Object[values.length];
        for (int i = 0; i < values.length; i++) {
            given[i] = m.getParameterTypes()[i] == boolean.class ? (Object) (values[i] != 0) : (Object) values[i];
        }
        try {
            Object got = m.invoke(x, given);
            return got instanceof Boolean is ? (is ? 1 : 0) : (Integer) got;
        } catch (InvocationTargetException | IllegalAccessException e) {
            throw new IllegalStateException(text(m.getName(), values) + " threw", e);
        }
    }

    static String text(String name, int... values) {
        StringBuilder all = new StringBuilder(name).append('(');
        for (int i = 0; i < values.length; i++) {
            all.append(i == 0 ? "" : ", ").append(values[i]);
        }
        return all.append(')').toString();
    }
}
