import java.lang.reflect.InvocationTargetException;
import java.lang.reflect.Method;
import java.util.Arrays;
import java.util.HashMap;
import java.util.Map;

/** A module and the model beside it, which get the same calls. */
final class Beside {
    /** Numbers at which some call of the face answers otherwise than next to them, and the farthest ones. */
    static final int[] EDGES = {
        Integer.MIN_VALUE, -16, -2, -1, 0, 1, 2, 3, 4, 5, 8, 9, 11, 12, 13, 15, 16, 17, 24, 28, 32, 63, 64, 65, 80, 88,
        256, 257, 480, 481, 484, 496, 497, 504, 505, 511, 512, 513, 999999, 1000000, 1000001,
        Integer.MAX_VALUE - 15, Integer.MAX_VALUE,
    };
    private static final Map<String, Method> OF_MODULE = methods(Counted.class);
    private static final Map<String, Method> OF_MODEL = methods(Model.class);

    private final Counted module = new Counted();
    final Model model = new Model();
    private String wrong = "";

    private static Map<String, Method> methods(Class<?> owner) {
        Map<String, Method> found = new HashMap<>();
        for (Method method : owner.getDeclaredMethods()) {
            found.put(method.getName(), method);
        }
        return found;
    }

    /** What the two have answered differently, or an empty text. */
    String wrong() {
        return wrong;
    }

    int callsLeft() {
        return module.callsLeft();
    }

    boolean loggedIn() {
        return model.state() == 3 || model.state() == 4;
    }

    /** The number that was due, 0 where there is none. */
    int both(String name, Object... arguments) {
        String got = answer(OF_MODULE.get(name), module, arguments);
        String want = answer(OF_MODEL.get(name), model, arguments);
        if (!got.equals(want) && wrong.isEmpty()) {
            wrong = name + Arrays.toString(arguments) + " answered " + got + ", due is " + want;
        }
        return want.matches("-?[0-9]{1,9}") ? Integer.parseInt(want) : 0;
    }

    private static String answer(Method method, Object target, Object[] arguments) {
        try {
            return String.valueOf(method.invoke(target, arguments));
        } catch (InvocationTargetException e) {
            return e.getCause().getClass().getSimpleName();
        } catch (IllegalAccessException e) {
            throw new AssertionError(e);
        }
    }

    /** Looks at all that can be seen with the calls that closing needs. */
    void close() {
        both("state");
        for (int kind = 0; kind < 3; kind++) {
            both("counter", kind);
        }
        for (int i = 0; i < 512; i += 8) {
            both("peek", i);
        }
    }

    static final int CALLS_TO_CLOSE = 68;
}
