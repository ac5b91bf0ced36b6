import java.lang.reflect.InvocationTargetException;
import java.lang.reflect.Method;
import java.util.HashMap;
import java.util.Map;

/** Calls the methods of ParserProof, or of something with the same face, by their names. */
final class Caller {
    private static final Map<Class<?>, Map<String, Method>> KNOWN = new HashMap<>();

    private final Object target;
    private final Map<String, Method> methods;

    Caller(Object target) {
        this.target = target;
        methods = KNOWN.computeIfAbsent(target.getClass(), Caller::methodsOf);
    }

    private static Map<String, Method> methodsOf(Class<?> type) {
        Map<String, Method> methods = new HashMap<>();
        for (Method method : type.getDeclaredMethods()) {
            methods.put(method.getName() + "/" + method.getParameterCount(), method);
        }
        return methods;
    }

    /** The answer as a text: a number, a boolean as 1 or 0, "ok" for none, or an exception's simple name. */
    String call(String name, int... arguments) {
        Method method = methods.get(name + "/" + arguments.length);
        if (method == null) {
            throw new AssertionError("no method " + name + " with " + arguments.length + " arguments");
        }
        Object[] boxed = new Object[arguments.length];
        for (int i = 0; i < arguments.length; i++) {
            boxed[i] = arguments[i];
        }
        try {
            Object answer = method.invoke(target, boxed);
            if (answer instanceof Boolean truth) {
                return truth ? "1" : "0";
            }
            return answer == null ? "ok" : answer.toString();
        } catch (InvocationTargetException e) {
            return e.getCause().getClass().getSimpleName();
        } catch (IllegalAccessException e) {
            throw new AssertionError(e);
        }
    }
}
