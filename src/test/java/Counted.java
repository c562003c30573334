/** A module that says when a test makes more calls than the document tells the answers of. */
final class Counted {
    private static final int PROMISED_CALLS = 512;

    private final SealedModule module = new SealedModule();
    private int callsLeft;

    Counted() {
        this(PROMISED_CALLS);
    }

    /** For the few tests that have to look beyond the calls that are promised. */
    Counted(int calls) {
        callsLeft = calls;
    }

    private SealedModule next() {
        callsLeft--;
        if (callsLeft < 0) {
            throw new AssertionError("the test makes more calls than are promised");
        }
        return module;
    }

    int callsLeft() {
        return callsLeft;
    }

    int power(boolean on) {
        return next().power(on);
    }

    int selfTestStep(int n) {
        return next().selfTestStep(n);
    }

    void fault(int test) {
        next().fault(test);
    }

    void poke(int i, long bytes, int n) {
        next().poke(i, bytes, n);
    }

    long peek(int i) {
        return next().peek(i);
    }

    int login(int role, int pin) {
        return next().login(role, pin);
    }

    void logout() {
        next().logout();
    }

    int setPin(int role, int pin) {
        return next().setPin(role, pin);
    }

    int entropy(int word) {
        return next().entropy(word);
    }

    int state() {
        return next().state();
    }

    int slotInfo(int slot, int what) {
        return next().slotInfo(slot, what);
    }

    int zeroise(int slot) {
        return next().zeroise(slot);
    }

    void zeroiseAll() {
        next().zeroiseAll();
    }

    int load(int slot, int kind, int usage, int role, int uses, int n) {
        return next().load(slot, kind, usage, role, uses, n);
    }

    int make(int slot, int kind, int usage, int role, int uses, int n) {
        return next().make(slot, kind, usage, role, uses, n);
    }

    int derive(int slot, int from, int kind, int usage, int n, int m) {
        return next().derive(slot, from, kind, usage, n, m);
    }

    int wrap(int slot, int by) {
        return next().wrap(slot, by);
    }

    int unwrap(int slot, int by, int n) {
        return next().unwrap(slot, by, n);
    }

    int run(int service, int slot, int at, int n, int m) {
        return next().run(service, slot, at, n, m);
    }

    int hash(int step, int at, int n) {
        return next().hash(step, at, n);
    }

    int counter(int kind) {
        return next().counter(kind);
    }

    boolean same(int slot, int n) {
        return next().same(slot, n);
    }
}
