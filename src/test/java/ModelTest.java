import java.util.Random;

/** All promises: random runs of calls, the same on a module and on the model beside it. */
public final class ModelTest {
    private static final int RUNS = 1500;

    private final Random random;
    private final Beside beside = new Beside();

    private ModelTest(int seed) {
        random = new Random(seed);
    }

    public static void main(String[] args) {
        Check c = new Check();
        c.holds("All promises, in random runs of calls", () -> {
            for (int seed = 0; seed < RUNS; seed++) {
                String wrong = new ModelTest(seed).runAll();
                c.due("run " + seed + ": " + wrong, wrong.isEmpty(), true);
            }
        });
        c.finish();
    }

    private String runAll() {
        // One step makes at most 24 calls.
        while (beside.callsLeft() > Beside.CALLS_TO_CLOSE + 24 && beside.wrong().isEmpty()) {
            if (!beside.loggedIn() && random.nextInt(8) > 0) {
                goOn();
            } else {
                anyCall();
            }
        }
        beside.close();
        return beside.wrong();
    }

    /** One call towards a login, so that runs get somewhere. */
    private void goOn() {
        if (beside.model.state() == 0 || beside.model.state() == 5) {
            beside.both("power", true);
        } else if (beside.model.state() == 1 && random.nextInt(6) == 0) {
            beside.both("fault", mostly(random.nextInt(10)));
        } else if (beside.model.state() == 1) {
            beside.both("selfTestStep", mostly(random.nextInt(11)));
        } else {
            int role = 1 + random.nextInt(3) / 2;
            beside.both("login", role, random.nextInt(9) == 0 ? 5 : 1111 * role);
        }
    }

    private void anyCall() {
        int dice = random.nextInt(100);
        if (dice < 30) {
            runService();
        } else if (dice < 42) {
            newKey(random.nextInt(3) == 0 ? "make" : "load");
        } else if (dice < 50) {
            derive();
        } else if (dice < 56) {
            wrap();
        } else if (dice < 62) {
            beside.both("unwrap", slot(), slot(), mostly(8 * random.nextInt(12)));
        } else if (dice < 70) {
            beside.both("hash", mostly(random.nextInt(3)), place(), length());
        } else if (dice < 76) {
            entropy();
        } else if (dice < 84) {
            beside.both("poke", place(), random.nextLong(), mostly(1 + random.nextInt(8)));
        } else if (dice < 92) {
            beside.both("peek", mostly(random.nextInt(505)));
        } else {
            rareCall();
        }
    }

    private void rareCall() {
        int dice = random.nextInt(20);
        if (dice < 4) {
            beside.both("slotInfo", slot(), mostly(random.nextInt(5)));
        } else if (dice < 8) {
            beside.both("same", slot(), mostly(8 * random.nextInt(9)));
        } else if (dice < 11) {
            beside.both("zeroise", slot());
        } else if (dice < 13) {
            beside.both("counter", mostly(random.nextInt(3)));
        } else if (dice < 15) {
            beside.both("setPin", mostly(1 + random.nextInt(2)), mostly(random.nextBoolean() ? 2222 : 1111));
        } else if (dice < 16) {
            beside.both("fault", mostly(random.nextInt(10)));
        } else if (dice < 17) {
            beside.both("logout");
        } else if (dice < 18) {
            beside.both("power", random.nextBoolean());
        } else if (dice < 19 || random.nextInt(3) > 0) {
            beside.both("selfTestStep", mostly(random.nextInt(11)));
        } else {
            beside.both("zeroiseAll");
        }
    }

    private void entropy() {
        int words = random.nextInt(10) == 0 ? 20 : 1;
        for (int i = 0; i < words; i++) {
            beside.both("entropy", random.nextInt(60) == 0 ? 9 : random.nextInt());
        }
        for (int i = random.nextInt(60); i < 4; i++) {
            beside.both("entropy", 9);
        }
    }

    /** What was wrapped is sometimes unwrapped at once, as hardly any other bytes can be. */
    private void wrap() {
        int by = slot();
        int n = beside.both("wrap", slot(), by);
        if (n > 0 && random.nextBoolean()) {
            beside.both("unwrap", slot(), by, n);
        }
    }

    private void runService() {
        int service = mostly(1 + random.nextInt(11));
        boolean extra = service == 6 || service == 7 || service == 11;
        int m = extra ? mostly(random.nextInt(65)) : random.nextInt(20) == 0 ? 1 : 0;
        int slot = slot();
        int at = place();
        int n = random.nextBoolean() ? 16 * random.nextInt(12) : length();
        int answer = beside.both("run", service, slot, at, n, m);
        if (service == 6 && answer > 0 && random.nextBoolean()) {
            beside.both("run", 7, slot, at, answer, m);
        }
    }

    private void newKey(String name) {
        int kind = mostly(1 + random.nextInt(2));
        int usage = mostly(63 & ~(random.nextInt(64) & random.nextInt(64)));
        int uses = random.nextBoolean() ? -1 : mostly(random.nextInt(4));
        int n = kind == 1 ? 16 + 16 * random.nextInt(2) : 8 * (1 + random.nextInt(8));
        beside.both(name, slot(), kind, usage, mostly(1 + random.nextInt(2)), uses, mostly(n));
    }

    private void derive() {
        int kind = mostly(1 + random.nextInt(2));
        int n = kind == 1 ? 16 + 16 * random.nextInt(2) : 1 + random.nextInt(64);
        beside.both("derive", slot(), slot(), kind, mostly(random.nextInt(64)), mostly(n), mostly(random.nextInt(65)));
    }

    private int mostly(int value) {
        return random.nextInt(30) == 0 ? Beside.EDGES[random.nextInt(Beside.EDGES.length)] : value;
    }

    private int slot() {
        return mostly(random.nextInt(6));
    }

    private int place() {
        return mostly(random.nextInt(random.nextBoolean() ? 3 : 512));
    }

    private int length() {
        return mostly(random.nextInt(random.nextBoolean() ? 100 : 513));
    }
}
