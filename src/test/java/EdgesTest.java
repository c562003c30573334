import java.util.List;

/** All promises: each call with each two of its numbers at edges and the others right, beside the model. */
public final class EdgesTest {
    private static final Check C = new Check();
    private static final List<String> CALLS_THAT_STAY =
            List.of("selfTestStep", "fault", "poke", "peek", "slotInfo", "run", "hash", "counter", "same", "wrap");

    private final int state;
    private Beside beside;

    private EdgesTest(int state) {
        this.state = state;
        begin();
    }

    public static void main(String[] args) {
        for (int state = 0; state <= 5; state++) {
            int number = state;
            C.holds("Each call with two of its numbers at edges, in state " + state, () -> new EdgesTest(number).calls());
        }
        C.finish();
    }

    /** Keys of both roles, a wrapped key in the buffer, words and a stream, so that each call can be accepted. */
    private void begin() {
        beside = new Beside();
        reach(3);
        for (int i = 0; i < 64; i += 8) {
            beside.both("poke", i, 0x0102030405060708L * (i + 3), 8);
        }
        for (int role = 1; role <= 2; role++) {
            beside.both("load", 2 * role, 1, 63, role, -1, 16);
            beside.both("load", 2 * role + 1, 2, 63, role, -1, 16);
        }
        beside.both("load", 0, 2, 63, 1, 0, 8);
        if (state != 3) {
            reach(state);
        }
        for (int i = 0; i < 12 && state != 0; i++) {
            beside.both("entropy", Check.word(i));
        }
        if (beside.loggedIn()) {
            beside.both("hash", 0, 0, 0);
            beside.both("wrap", ownAes() + 1, ownAes());
        }
    }

    private void reach(int wanted) {
        beside.both("power", wanted != 0);
        if (wanted == 5) {
            beside.both("fault", 3);
        }
        if (wanted > 1) {
            beside.both("selfTestStep", 10);
        }
        if (wanted == 3 || wanted == 4) {
            beside.both("login", wanted - 2, 1111 * (wanted - 2));
        }
    }

    private int ownAes() {
        return state == 4 ? 4 : 2;
    }

    private void calls() {
        int aes = ownAes();
        int mac = aes + 1;
        vary("selfTestStep", 3);
        vary("fault", 3);
        vary("poke", 8, -77, 4);
        vary("peek", 8);
        vary("login", 1, 1111);
        vary("setPin", 2, 5);
        vary("slotInfo", mac, 2);
        vary("zeroise", mac);
        vary("load", 9, 2, 63, 1, -1, 16);
        vary("load", 9, 1, 63, 2, 5, 32);
        vary("make", 9, 2, 63, 1, -1, 16);
        vary("derive", 9, mac, 2, 63, 40, 4);
        vary("derive", 9, mac, 1, 63, 32, 0);
        vary("wrap", mac, aes);
        vary("unwrap", 9, aes, 32);
        for (int service = 1; service <= 11; service++) {
            vary("run", service, service == 10 ? mac : aes, 16, 48, 0);
        }
        vary("hash", 1, 8, 70);
        vary("hash", 2, 8, 0);
        vary("counter", 1);
        vary("same", mac, 16);
        close();
    }

    private void vary(String name, int... right) {
        for (int i = 0; i < right.length; i++) {
            for (int one : Beside.EDGES) {
                call(name, changed(right, i, one));
                for (int k = i + 1; k < right.length && beside.loggedIn(); k++) {
                    for (int other : Beside.EDGES) {
                        call(name, changed(changed(right, i, one), k, other));
                    }
                }
            }
        }
    }

    private static int[] changed(int[] numbers, int i, int number) {
        int[] out = numbers.clone();
        out[i] = number;
        return out;
    }

    private void call(String name, int[] numbers) {
        if (beside.callsLeft() <= Beside.CALLS_TO_CLOSE) {
            close();
            begin();
        }
        Object[] arguments = new Object[numbers.length];
        for (int i = 0; i < numbers.length; i++) {
            arguments[i] = numbers[i];
        }
        if (name.equals("poke")) {
            arguments[1] = 0x0101010101010101L * numbers[1];
        }
        int before = beside.model.state();
        int answer = beside.both(name, arguments);
        boolean changed = answer >= 0 && !CALLS_THAT_STAY.contains(name);
        if (changed || before != beside.model.state()) {
            close();
            begin();
        }
    }

    private void close() {
        beside.close();
        C.due(beside.wrong(), beside.wrong().isEmpty(), true);
    }
}
