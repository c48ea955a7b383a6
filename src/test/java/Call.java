import java.lang.reflect.InvocationTargetException;
import java.lang.reflect.Method;
import java.util.Arrays;
import java.util.HashMap;
import java.util.Map;

/** A call of a method of the face, by its name; what it answers is told as a text. */
final class Call {
    private static final Map<String, Method> FACE = methodsOf(MealAccounts.class);
    private static final Map<String, Method> MODEL = methodsOf(Model.class);

    private final String name;
    private final Object[] arguments;
    private String text;

    private Call(String name, Object[] arguments) {
        this.name = name;
        this.arguments = arguments;
    }

    static Call of(String name, Object... arguments) {
        Method method = FACE.get(name);
        if (method == null) {
            throw new AssertionError("the class has no method " + name);
        }
        Object[] fitting = arguments.clone();
        Class<?>[] types = method.getParameterTypes();
        for (int i = 0; i < fitting.length; i++) {
            if (types[i] == long.class && fitting[i] instanceof Integer small) {
                fitting[i] = (long) small;
            }
        }
        return new Call(name, fitting);
    }

    /** "throws.X" if X is thrown: the very class, so that what the machine throws is told apart. */
    static String thrown(Class<?> exception) {
        return "throws." + exception.getSimpleName();
    }

    String on(MealAccounts accounts) {
        return answer(FACE.get(name), accounts);
    }

    String on(Model model) {
        return answer(MODEL.get(name), model);
    }

    private String answer(Method method, Object target) {
        try {
            return String.valueOf(method.invoke(target, arguments));
        } catch (InvocationTargetException e) {
            return thrown(e.getCause().getClass());
        } catch (IllegalAccessException e) {
            throw new AssertionError(e);
        }
    }

    private static Map<String, Method> methodsOf(Class<?> type) {
        Map<String, Method> methods = new HashMap<>();
        for (Method method : type.getDeclaredMethods()) {
            if (!java.lang.reflect.Modifier.isPrivate(method.getModifiers())) {
                method.setAccessible(true);
                methods.put(method.getName(), method);
            }
        }
        return methods;
    }

    @Override
    public String toString() {
        if (text == null) {
            String listed = Arrays.toString(arguments);
            text = name + "(" + listed.substring(1, listed.length() - 1) + ")";
        }
        return text;
    }
}
