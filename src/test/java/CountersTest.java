/** The term COUNTERS, and promise 22: counter. */
public final class CountersTest {
    private static final Check C = new Check();

    public static void main(String[] args) {
        C.holds("0 calls accepted, 1 refused (of run, hash, login, setPin, load, make, derive, wrap, unwrap, zeroise)",
                CountersTest::eachCallIsCounted);
        C.holds("REFUSALS (negative answers): an answer of 0 is none", CountersTest::answersOfZero);
        C.holds("1 refused: in each state", CountersTest::refusedInEachState);
        C.holds("(of run, .. zeroise): no other calls", CountersTest::othersAreNotCounted);
        C.holds("2 tests failed.", CountersTest::testsFailed);
        C.holds("Promise 22: A counter.", CountersTest::counterChangesNothing);
        C.holds("Promise 22: IllegalArgumentException: there is no such one.", CountersTest::noSuchCounter);
        C.finish();
    }

    private static void due(Counted x, String after, int accepted, int refused) {
        C.due("accepted after " + after, x.counter(0), accepted);
        C.due("refused after " + after, x.counter(1), refused);
        C.due("failed after " + after, x.counter(2), 0);
    }

    private static void eachCallIsCounted() {
        Counted x = Check.ready();
        due(x, "nothing", 0, 0);
        x.login(1, 1);
        due(x, "a wrong pin", 0, 1);
        x.login(1, 1111);
        due(x, "login", 1, 1);
        x.setPin(2, 2222);
        due(x, "setPin", 2, 1);
        x.setPin(2, -1);
        due(x, "setPin, refused", 2, 2);
        x.load(0, 2, 40, 1, -1, 8);
        due(x, "load", 3, 2);
        x.load(0, 2, 40, 1, -1, 8);
        due(x, "load, refused", 3, 3);
        x.make(1, 1, 63, 1, -1, 16);
        due(x, "make, refused", 3, 4);
        Check.feed(x, 0, 12);
        x.make(1, 1, 63, 1, -1, 16);
        due(x, "make", 4, 4);
        x.derive(2, 0, 2, 63, 8, 0);
        due(x, "derive", 5, 4);
        x.derive(2, 0, 2, 63, 8, 0);
        due(x, "derive, refused", 5, 5);
        x.wrap(0, 1);
        due(x, "wrap", 6, 5);
        x.wrap(1, 1);
        due(x, "wrap, refused", 6, 6);
        x.unwrap(3, 1, 24);
        due(x, "unwrap", 7, 6);
        x.unwrap(4, 1, 32);
        due(x, "unwrap, refused", 7, 7);
        x.run(9, 0, 0, 0, 0);
        due(x, "run", 8, 7);
        x.run(7, 1, 0, 28, 0);
        due(x, "run, refused", 8, 8);
        x.hash(0, 0, 0);
        due(x, "hash", 9, 8);
        x.hash(5, 0, 0);
        due(x, "hash, refused", 9, 9);
        x.zeroise(0);
        due(x, "zeroise", 10, 9);
        x.zeroise(0);
        due(x, "zeroise, refused", 10, 10);
    }

    private static void answersOfZero() {
        Counted x = Check.officer();
        x.load(0, 1, 1, 1, -1, 16);
        C.due("ECB of no bytes", x.run(1, 0, 0, 0, 0), 0);
        due(x, "ECB of no bytes", 3, 0);
        x.hash(0, 0, 0);
        C.due("no bytes taken in", x.hash(1, 0, 0), 0);
        due(x, "no bytes taken in", 5, 0);
        Check.feed(x, 0, 12);
        C.due("a request of no bytes", x.run(11, 0, 0, 0, 0), 0);
        due(x, "a request of no bytes", 6, 0);
    }

    private static void refusedInEachState() {
        int[] others = {0, 1, 2, 5};
        for (int state : others) {
            Counted x = Check.inState(state);
            x.run(9, 0, 0, 0, 0);
            x.hash(0, 0, 0);
            x.login(state == 2 ? 3 : 1, 1111);
            x.setPin(1, 1);
            x.load(0, 2, 0, 1, 0, 1);
            x.make(0, 2, 0, 1, 0, 1);
            x.derive(0, 1, 2, 0, 1, 0);
            x.wrap(0, 1);
            x.unwrap(0, 1, 24);
            x.zeroise(0);
            C.due("accepted in " + state, x.counter(0), 0);
            C.due("refused in " + state, x.counter(1), 10);
        }
    }

    private static void othersAreNotCounted() {
        Counted x = Check.officer();
        x.poke(0, 1, 1);
        C.illegalArgument("poke", () -> x.poke(0, 1, 0));
        x.peek(0);
        C.illegalArgument("peek", () -> x.peek(505));
        x.entropy(1);
        x.state();
        x.slotInfo(0, 0);
        C.illegalArgument("slotInfo", () -> x.slotInfo(0, 5));
        x.same(0, 1);
        C.illegalArgument("same", () -> x.same(16, 1));
        x.selfTestStep(1);
        x.fault(0);
        C.illegalArgument("fault", () -> x.fault(10));
        C.illegalArgument("counter", () -> x.counter(3));
        x.logout();
        C.illegalState("logout", x::logout);
        x.zeroiseAll();
        x.power(true);
        C.due("a step of wrong size", x.selfTestStep(11), -2);
        x.power(false);
        C.illegalState("poke", () -> x.poke(0, 1, 1));
        C.illegalState("entropy", () -> x.entropy(1));
        due(x, "all others", 1, 0);
    }

    private static void testsFailed() {
        Counted x = new Counted();
        for (int i = 0; i < 10; i++) {
            x.power(true);
            C.due("failed", x.counter(2), i);
            x.fault(i);
            x.selfTestStep(i);
            C.due("failed before test " + i, x.counter(2), i);
            x.selfTestStep(10);
            C.due("failed", x.counter(2), i + 1);
            x.selfTestStep(10);
            C.due("no more in error", x.counter(2), i + 1);
        }
        C.due("these are no refusals", x.counter(0) + x.counter(1), 0);
    }

    private static void counterChangesNothing() {
        for (int state = 0; state <= 5; state++) {
            Counted x = Check.inState(state);
            int accepted = state == 3 || state == 4 ? 1 : 0;
            int failed = state == 5 ? 1 : 0;
            for (int time = 0; time < 2; time++) {
                C.due("accepted", x.counter(0), accepted);
                C.due("refused", x.counter(1), 0);
                C.due("failed", x.counter(2), failed);
            }
        }
    }

    private static void noSuchCounter() {
        int[] wrong = {-1, 3, Check.LOWEST, Check.HIGHEST};
        for (int state = 0; state <= 5; state++) {
            Counted x = Check.inState(state);
            for (int kind : wrong) {
                C.illegalArgument("counter " + kind + " in " + state, () -> x.counter(kind));
            }
        }
    }
}
