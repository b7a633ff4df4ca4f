import java.lang.reflect.InvocationTargetException;
import java.lang.reflect.Method;
import java.util.HashMap;
import java.util.Map;

/** Makes calls that are written as texts, such as "order 0 1 5 100"; what is thrown counts as an answer. */
final class Calls {
    private static final int MOST_CALLS = 512;

    private final Object target;
    private final Map<String, Method> methods = new HashMap<>();
    private int count;

    Calls(Object target) {
        this.target = target;
        for (Method method : target.getClass().getDeclaredMethods()) {
            if (!method.isSynthetic()) {
                method.setAccessible(true);
                methods.put(method.getName() + " " + method.getParameterCount(), method);
            }
        }
    }

    /** Returns the answer as a text: a number, 1 or 0 for a boolean, or throws. and an exception's name. */
    String answer(String call) {
        String[] words = call.split(" ");
        int[] numbers = new int[words.length - 1];
        for (int i = 0; i < numbers.length; i++) {
            numbers[i] = Integer.parseInt(words[i + 1]);
        }
        return answer(words[0], numbers);
    }

    String answer(String name, int... numbers) {
        count++;
        if (count > MOST_CALLS) {
            throw new IllegalStateException("a test makes more than 512 calls");
        }
        try {
            Method method = methodNamed(name, numbers.length);
            Object[] arguments = new Object[numbers.length];
            for (int i = 0; i < numbers.length; i++) {
                boolean isFlag = method.getParameterTypes()[i] == boolean.class;
                arguments[i] = isFlag ? (Object) (numbers[i] != 0) : (Object) numbers[i];
            }
            Object result = method.invoke(target, arguments);
            return result instanceof Boolean ? ((Boolean) result ? "1" : "0") : String.valueOf(result);
        } catch (InvocationTargetException thrown) {
            return "throws." + thrown.getCause().getClass().getSimpleName();
        } catch (IllegalAccessException closed) {
            throw new IllegalStateException(closed);
        }
    }

    int count() {
        return count;
    }

    private Method methodNamed(String name, int parameters) {
        Method method = methods.get(name + " " + parameters);
        if (method == null) {
            throw new IllegalStateException("no method " + name + " with " + parameters + " parameters");
        }
        return method;
    }
}
