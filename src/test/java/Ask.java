import java.lang.reflect.InvocationTargetException;
import java.lang.reflect.Method;
import java.lang.reflect.Modifier;
import java.util.HashMap;
import java.util.Map;

/** Calls of the public face by their names, so that a test can hold many of them in one table. */
final class Ask {
    private static final Map<String, Method> FACE = new HashMap<>();

    static {
        for (Method m : PapersEarly.class.getDeclaredMethods()) {
            if (Modifier.isPublic(m.getModifiers())) FACE.put(m.getName(), m);
        }
    }

    static long call(PapersEarly x, String name, int... args) {
        Object[] all = new Object[args.length];
        for (int i = 0; i < args.length; i++) {
            all[i] = args[i];
        }
        try {
            return ((Number) FACE.get(name).invoke(x, all)).longValue();
        } catch (IllegalAccessException | InvocationTargetException e) {
            throw new AssertionError(words(name, args), e);
        }
    }

    static String words(String name, int... args) {
        StringBuilder all = new StringBuilder(name).append('(');
        for (int i = 0; i < args.length; i++) {
            all.append(i == 0 ? "" : ", ").append(args[i]);
        }
        return all.append(')').toString();
    }
}
