import java.lang.reflect.InvocationTargetException;
import java.lang.reflect.Method;
import java.util.Arrays;
import java.util.HashMap;
import java.util.Map;
import java.util.Random;

/** All promises: random runs of calls, the same on a module and on the model beside it. */
public final class ModelTest {
    private static final int RUNS = 400;
    // The rest of an object's 512 calls is left for the looks at the buffer and the counters.
    private static final int CALLS = 400;
    private static final int[] EDGES = {
        Integer.MIN_VALUE, -16, -2, -1, 0, 1, 2, 3, 15, 16, 17, 63, 64, 65, 480, 481, 504, 505, 511, 512, 513,
        1000000, 1000001, Integer.MAX_VALUE - 15, Integer.MAX_VALUE,
    };
    private static final Map<String, Method> OF_MODULE = methods(SealedModule.class);
    private static final Map<String, Method> OF_MODEL = methods(Model.class);

    private final Random random;
    private final SealedModule module = new SealedModule();
    private final Model model = new Model();
    private String wrong = "";

    private ModelTest(int seed) {
        random = new Random(seed);
    }

    public static void main(String[] args) {
        Check c = new Check();
        for (int seed = 0; seed < RUNS; seed++) {
            String wrong = new ModelTest(seed).runAll();
            c.due("run " + seed + ": " + wrong, wrong.isEmpty(), true);
        }
        c.finish();
    }

    private static Map<String, Method> methods(Class<?> owner) {
        Map<String, Method> found = new HashMap<>();
        for (Method method : owner.getDeclaredMethods()) {
            found.put(method.getName(), method);
        }
        return found;
    }

    private String runAll() {
        for (int i = 0; i < CALLS && wrong.isEmpty(); i++) {
            boolean loggedIn = model.state() == 3 || model.state() == 4;
            if (!loggedIn && random.nextInt(8) > 0) {
                goOn();
            } else {
                anyCall();
            }
        }
        for (int i = 0; i < 512 && wrong.isEmpty(); i += 8) {
            both("peek", i);
        }
        for (int kind = 0; kind < 3 && wrong.isEmpty(); kind++) {
            both("counter", kind);
        }
        return wrong;
    }

    /** One call towards a login, so that runs get somewhere. */
    private void goOn() {
        if (model.state() == 0 || model.state() == 5) {
            both("power", true);
        } else if (model.state() == 1 && random.nextInt(6) == 0) {
            both("fault", often(random.nextInt(10)));
        } else if (model.state() == 1) {
            both("selfTestStep", often(random.nextInt(11)));
        } else {
            int role = 1 + random.nextInt(3) / 2;
            both("login", role, random.nextInt(9) == 0 ? 5 : 1111 * role);
        }
    }

    private void anyCall() {
        int dice = random.nextInt(100);
        if (dice < 30) {
            runService();
        } else if (dice < 42) {
            newKey(random.nextInt(3) == 0 ? "make" : "load");
        } else if (dice < 50) {
            derive();
        } else if (dice < 56) {
            wrap();
        } else if (dice < 62) {
            both("unwrap", slot(), slot(), often(8 * random.nextInt(12)));
        } else if (dice < 70) {
            both("hash", often(random.nextInt(3)), place(), length());
        } else if (dice < 76) {
            entropy();
        } else if (dice < 84) {
            both("poke", place(), random.nextLong(), often(1 + random.nextInt(8)));
        } else if (dice < 92) {
            both("peek", often(random.nextInt(505)));
        } else {
            rareCall();
        }
    }

    private void rareCall() {
        int dice = random.nextInt(20);
        if (dice < 4) {
            both("slotInfo", slot(), often(random.nextInt(5)));
        } else if (dice < 8) {
            both("same", slot(), often(8 * random.nextInt(9)));
        } else if (dice < 11) {
            both("zeroise", slot());
        } else if (dice < 13) {
            both("counter", often(random.nextInt(3)));
        } else if (dice < 15) {
            both("setPin", often(1 + random.nextInt(2)), often(random.nextBoolean() ? 2222 : 1111));
        } else if (dice < 16) {
            both("fault", often(random.nextInt(10)));
        } else if (dice < 17) {
            both("logout");
        } else if (dice < 18) {
            both("power", random.nextBoolean());
        } else if (dice < 19 || random.nextInt(3) > 0) {
            both("selfTestStep", often(random.nextInt(11)));
        } else {
            both("zeroiseAll");
        }
    }

    private void entropy() {
        int words = random.nextInt(10) == 0 ? 20 : 1;
        for (int i = 0; i < words && wrong.isEmpty(); i++) {
            both("entropy", random.nextInt(60) == 0 ? 9 : random.nextInt());
        }
        for (int i = random.nextInt(60); i < 4 && wrong.isEmpty(); i++) {
            both("entropy", 9);
        }
    }

    /** What was wrapped is sometimes unwrapped at once, as hardly any other bytes can be. */
    private void wrap() {
        int by = slot();
        int n = both("wrap", slot(), by);
        if (n > 0 && random.nextBoolean()) {
            both("unwrap", slot(), by, n);
        }
    }

    private void runService() {
        int service = often(1 + random.nextInt(11));
        boolean extra = service == 6 || service == 7 || service == 11;
        int m = extra ? often(random.nextInt(65)) : random.nextInt(20) == 0 ? 1 : 0;
        int slot = slot();
        int at = place();
        int n = random.nextBoolean() ? 16 * random.nextInt(12) : length();
        int answer = both("run", service, slot, at, n, m);
        if (service == 6 && answer > 0 && random.nextBoolean()) {
            both("run", 7, slot, at, answer, m);
        }
    }

    private void newKey(String name) {
        int kind = often(1 + random.nextInt(2));
        int usage = often(63 & ~(random.nextInt(64) & random.nextInt(64)));
        int uses = random.nextBoolean() ? -1 : often(random.nextInt(4));
        int n = kind == 1 ? 16 + 16 * random.nextInt(2) : 8 * (1 + random.nextInt(8));
        both(name, slot(), kind, usage, often(1 + random.nextInt(2)), uses, often(n));
    }

    private void derive() {
        int kind = often(1 + random.nextInt(2));
        int n = kind == 1 ? 16 + 16 * random.nextInt(2) : 1 + random.nextInt(64);
        both("derive", slot(), slot(), kind, often(random.nextInt(64)), often(n), often(random.nextInt(65)));
    }

    private int often(int value) {
        return random.nextInt(30) == 0 ? EDGES[random.nextInt(EDGES.length)] : value;
    }

    private int slot() {
        return often(random.nextInt(6));
    }

    private int place() {
        return often(random.nextInt(random.nextBoolean() ? 3 : 512));
    }

    private int length() {
        return often(random.nextInt(random.nextBoolean() ? 100 : 513));
    }

    /** The number that was answered, 0 where there is none. */
    private int both(String name, Object... arguments) {
        String got = answer(OF_MODULE.get(name), module, arguments);
        String want = answer(OF_MODEL.get(name), model, arguments);
        if (!got.equals(want) || module.state() != model.state()) {
            wrong = name + Arrays.toString(arguments) + " answered " + got + ", due is " + want
                    + "; the states are " + module.state() + ", " + model.state();
        }
        return want.matches("-?[0-9]{1,9}") ? Integer.parseInt(want) : 0;
    }

    private static String answer(Method method, Object target, Object[] arguments) {
        try {
            return String.valueOf(method.invoke(target, arguments));
        } catch (InvocationTargetException e) {
            return e.getCause().getClass().getSimpleName();
        } catch (IllegalAccessException e) {
            throw new AssertionError(e);
        }
    }
}
