import java.lang.reflect.InvocationTargetException;
import java.lang.reflect.Method;
import java.util.Map;
import java.util.TreeMap;

/** Makes calls by their names, of DeepWings or of Model. */
final class Call {
    private static final Map<String, Method> OURS = methods(DeepWings.class);

    private Call() {
    }

    static Map<String, Method> methods(Class<?> of) {
        Map<String, Method> found = new TreeMap<>();
        for (Method m : of.getDeclaredMethods()) {
            m.setAccessible(true);
            found.put(m.getName(), m);
        }
        return found;
    }

    /** What a call answers, or the name of what it throws; a boolean is told as 0 or 1. */
    static String answer(Object target, Method m, int... args) {
        Object[] values = new Object[args.length];
        for (int i = 0; i < args.length; i++) {
            values[i] = m.getParameterTypes()[i] == boolean.class ? (Object) (args[i] != 0) : (Object) args[i];
        }
        try {
            return m.invoke(target, values).toString();
        } catch (InvocationTargetException e) {
            return e.getCause().getClass().getSimpleName();
        } catch (IllegalAccessException e) {
            return e.toString();
        }
    }

    static String answer(DeepWings w, String name, int... args) {
        return answer(w, OURS.get(name), args);
    }

    static String told(String name, int... args) {
        StringBuilder s = new StringBuilder(name).append('(');
        for (int i = 0; i < args.length; i++) {
            s.append(i > 0 ? ", " : "").append(args[i]);
        }
        return s.append(')').toString();
    }
}
