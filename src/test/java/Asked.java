import java.lang.reflect.InvocationTargetException;
import java.lang.reflect.Method;
import java.util.ArrayList;
import java.util.HashMap;
import java.util.List;
import java.util.Map;

/** An object of the program or of the model, asked by the names of the calls; it writes down what was answered. */
final class Asked {
    /** Behind so many calls an object's answers are free. */
    private static final int MOST_CALLS = 512;
    private static final Map<Class<?>, Map<String, Method>> METHODS = new HashMap<>();

    private final Object object;
    private int calls = 0;
    final List<String> told = new ArrayList<>();

    Asked(Object object) {
        this.object = object;
    }

    private static Map<String, Method> methods(Class<?> of) {
        return METHODS.computeIfAbsent(of, key -> {
            Map<String, Method> methods = new HashMap<>();
            for (Method method : key.getDeclaredMethods()) {
                if (method.getReturnType() == int.class || method.getReturnType() == long.class) {
                    methods.putIfAbsent(method.getName() + " " + method.getParameterCount(), method);
                }
            }
            return methods;
        });
    }

    /** The answer of a call that is told as its name and its arguments, parted by blanks. */
    long ask(String call) {
        String[] words = call.split(" ");
        Method method = methods(object.getClass()).get(words[0] + " " + (words.length - 1));
        Object[] arguments = new Object[words.length - 1];
        for (int i = 0; i < arguments.length; i++) {
            long v = Long.parseLong(words[i + 1]);
            if (method.getParameterTypes()[i] == int.class) {
                arguments[i] = (int) v;
            } else {
                arguments[i] = v;
            }
        }
        calls++;
        if (calls > MOST_CALLS) {
            throw new IllegalStateException("too many calls of one object: " + call);
        }
        try {
            long answer = ((Number) method.invoke(object, arguments)).longValue();
            told.add(call + " = " + answer);
            return answer;
        } catch (InvocationTargetException thrown) {
            throw new IllegalStateException(call + " threw " + thrown.getCause(), thrown.getCause());
        } catch (IllegalAccessException closed) {
            throw new IllegalStateException(closed);
        }
    }

    void ask(List<String> calls) {
        for (String call : calls) {
            ask(call);
        }
    }
}
