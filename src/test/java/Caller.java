import java.lang.reflect.InvocationTargetException;
import java.lang.reflect.Method;
import java.lang.reflect.Modifier;
import java.util.Map;
import java.util.Set;
import java.util.TreeMap;

/** Makes calls that are told by words. */
final class Caller {
    private final Map<String, Method> methods = new TreeMap<>();

    Caller() {
        for (Method method : FerryDraughts.class.getDeclaredMethods()) {
            if (Modifier.isPublic(method.getModifiers())) {
                methods.put(method.getName(), method);
            }
        }
    }

    /** The names of all calls. */
    Set<String> calls() {
        return methods.keySet();
    }

    /** The answer of a call, its arguments with a blank between two of them. */
    Object answer(FerryDraughts x, String word, String rest) {
        Method method = methods.get(word);
        if (method == null) {
            throw new AssertionError("no call " + word);
        }
        String[] words = rest.isEmpty() ? new String[0] : rest.split(" ");
        Object[] arguments = new Object[words.length];
        for (int i = 0; i < words.length; i++) {
            arguments[i] = argument(method.getParameterTypes()[i], words[i]);
        }
        try {
            return method.invoke(x, arguments);
        } catch (InvocationTargetException e) {
            if (e.getCause() instanceof RuntimeException cause) {
                throw cause;
            }
            throw new AssertionError(e);
        } catch (IllegalAccessException e) {
            throw new AssertionError(e);
        }
    }

    private static Object argument(Class<?> type, String word) {
        if (type == boolean.class) {
            return Boolean.valueOf(word);
        }
        if (type == char.class) {
            return word.charAt(0);
        }
        switch (word) {
            case "MIN": return Integer.MIN_VALUE;
            case "MAX": return Integer.MAX_VALUE;
            default: return Integer.valueOf(word);
        }
    }
}
