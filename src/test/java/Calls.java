import java.lang.reflect.Method;
import java.lang.reflect.Modifier;
import java.util.HashMap;
import java.util.Map;
import java.util.StringJoiner;

/** Calls by their names, so that a call that is answered wrongly can be told as it was made. */
final class Calls {
    private static final Map<Class<?>, Map<String, Method>> KNOWN = new HashMap<>();

    private Calls() {
    }

    /** Takes as many of the arguments as the method does; a boolean counts 1 or 0. */
    static long answer(Object yard, String name, int... arguments) {
        Method method = find(yard.getClass(), name);
        Object[] taken = new Object[method.getParameterCount()];
        for (int i = 0; i < taken.length; i++) {
            taken[i] = arguments[i];
        }
        try {
            Object answer = method.invoke(yard, taken);
            return answer instanceof Boolean truth ? (truth ? 1 : 0) : (Integer) answer;
        } catch (ReflectiveOperationException e) {
            throw new IllegalStateException(text(name, arguments) + " threw", e);
        }
    }

    /** What a refused call answers: false, or NONE. */
    static long refusal(String name) {
        return find(RefitYard.class, name).getReturnType() == boolean.class ? 0 : RefitYard.NONE;
    }

    static String text(String name, int... arguments) {
        StringJoiner text = new StringJoiner(", ", name + "(", ")");
        for (int argument : arguments) {
            text.add(Integer.toString(argument));
        }
        return text.toString();
    }

    private static Method find(Class<?> type, String name) {
        Method method = KNOWN.computeIfAbsent(type, Calls::openMethods).get(name);
        if (method == null) {
            throw new IllegalStateException("no method " + name);
        }
        return method;
    }

    private static Map<String, Method> openMethods(Class<?> type) {
        Map<String, Method> methods = new HashMap<>();
        for (Method method : type.getDeclaredMethods()) {
            if (!Modifier.isPrivate(method.getModifiers())) {
                methods.put(method.getName(), method);
            }
        }
        return methods;
    }
}
