/** Promise 22: counter. */
public final class CountersTest {
    private static final Check C = new Check();

    public static void main(String[] args) {
        eachCallIsCounted();
        othersAreNot();
        failed();
        wrongKinds();
        C.finish();
    }

    private static void due(SealedModule x, String after, int accepted, int refused) {
        C.due("accepted after " + after, x.counter(0), accepted);
        C.due("refused after " + after, x.counter(1), refused);
    }

    private static void eachCallIsCounted() {
        SealedModule x = Check.ready();
        due(x, "nothing", 0, 0);
        x.login(1, 1);
        due(x, "a wrong pin", 0, 1);
        x.login(1, 1111);
        due(x, "login", 1, 1);
        x.setPin(2, 2222);
        x.setPin(2, -1);
        due(x, "setPin", 2, 2);
        x.load(0, 2, 40, 1, -1, 8);
        x.load(0, 2, 40, 1, -1, 8);
        due(x, "load", 3, 3);
        x.make(1, 1, 63, 1, -1, 16);
        Check.feed(x, 0, 12);
        x.make(1, 1, 63, 1, -1, 16);
        due(x, "make", 4, 4);
        x.derive(2, 0, 2, 63, 8, 0);
        x.derive(2, 0, 2, 63, 8, 0);
        due(x, "derive", 5, 5);
        x.wrap(0, 1);
        x.wrap(1, 1);
        due(x, "wrap", 6, 6);
        x.unwrap(3, 1, 24);
        x.unwrap(4, 1, 32);
        due(x, "unwrap", 7, 7);
        x.run(9, 0, 0, 0, 0);
        x.run(7, 1, 0, 28, 0);
        due(x, "run", 8, 8);
        x.hash(0, 0, 0);
        x.hash(5, 0, 0);
        due(x, "hash", 9, 9);
        x.zeroise(0);
        x.zeroise(0);
        due(x, "zeroise", 10, 10);
    }

    private static void othersAreNot() {
        SealedModule x = Check.officer();
        x.poke(0, 1, 1);
        x.peek(0);
        x.entropy(1);
        x.state();
        x.slotInfo(0, 0);
        x.same(0, 1);
        x.selfTestStep(1);
        x.fault(0);
        x.logout();
        C.illegalState("logout", x::logout);
        x.zeroiseAll();
        x.power(true);
        due(x, "others", 1, 0);
    }

    private static void failed() {
        SealedModule x = new SealedModule();
        for (int i = 1; i <= 5; i++) {
            x.power(true);
            x.fault(i);
            x.selfTestStep(10);
            x.selfTestStep(10);
            C.due("failed", x.counter(2), i);
        }
    }

    private static void wrongKinds() {
        SealedModule x = new SealedModule();
        C.illegalArgument("counter(-1)", () -> x.counter(-1));
        C.illegalArgument("counter(3)", () -> x.counter(3));
        C.illegalArgument("counter(lowest)", () -> x.counter(Integer.MIN_VALUE));
    }
}
