/** Promises 1 to 4, 11 and 14: a new object, power, selfTestStep, fault, state, zeroiseAll. */
public final class StatesTest {
    private static final Check C = new Check();

    public static void main(String[] args) {
        newObject();
        power();
        powerOnForgets();
        powerOnKeeps();
        selfTestSteps();
        selfTestRefusals();
        faults();
        faultyTestAmongRightOnes();
        zeroiseAllInEachState();
        zeroiseAllForgets();
        zeroiseAllKeepsTheWatch();
        C.finish();
    }

    private static void newObject() {
        SealedModule x = new SealedModule();
        C.due("state of a new object", x.state(), 0);
        for (int i = 0; i < 16; i++) {
            C.due("slot of a new object", x.slotInfo(i, 0), -1);
        }
        for (int i = 0; i < 3; i++) {
            C.due("counter of a new object", x.counter(i), 0);
        }
        C.due("pins of a new object", Check.officer().state() * 10 + Check.user().state(), 34);
    }

    private static void power() {
        SealedModule x = new SealedModule();
        C.due("power(false) of a new one", x.power(false), 0);
        C.due("power(true)", x.power(true), 1);
        C.due("power(true) in testing", x.power(true), 1);
        C.due("power(false) in testing", x.power(false), 0);
        C.due("state", x.state(), 0);
        C.due("power(true) when ready", Check.ready().power(true), 1);
        C.due("power(true) of officer", Check.officer().power(true), 1);
        C.due("power(true) of user", Check.user().power(true), 1);
        C.due("power(false) of user", Check.user().power(false), 0);
        C.due("power(true) in error", Check.inError().power(true), 1);
        C.due("power(false) in error", Check.inError().power(false), 0);
        C.due("counter of power", x.counter(0) + x.counter(1), 0);
    }

    private static void powerOnForgets() {
        SealedModule x = Check.officer();
        x.poke(100, -1, 8);
        x.hash(0, 0, 0);
        Check.feed(x, 0, 24);
        C.due("a request", x.run(11, 0, 200, 8, 0), 8);
        x.power(true);
        C.due("all tests to come", x.selfTestStep(0), 10);
        x.selfTestStep(10);
        x.login(1, 1111);
        C.due("buffer after power(true)", x.peek(100) | x.peek(200), 0);
        C.due("stream after power(true)", x.hash(1, 0, 0), -4);
        C.due("generator and entropy after power(true)", x.run(11, 0, 0, 8, 0), -8);
        Check.feed(x, 0, 3);
        for (int i = 0; i < 4; i++) {
            x.entropy(7);
        }
        C.due("not healthy", x.entropy(8), 0);
        x.power(true);
        C.due("healthy again", x.entropy(7), 1);
        C.due("the row is forgotten", x.entropy(7) + x.entropy(7), 2);
        C.due("and counted anew", x.entropy(7), 0);
    }

    private static void powerOnKeeps() {
        SealedModule x = Check.officer();
        x.load(3, 2, 5, 1, 9, 7);
        x.setPin(1, 77);
        x.logout();
        x.login(2, 1);
        x.login(2, 1);
        int accepted = x.counter(0);
        int refused = x.counter(1);
        x.power(false);
        C.due("slots while off", x.slotInfo(3, 1), 7);
        x.power(true);
        x.selfTestStep(10);
        C.due("slots stay", x.slotInfo(3, 4), 9);
        C.due("accepted stay", x.counter(0), accepted);
        C.due("refused stay", x.counter(1), refused);
        C.due("the third try", x.login(2, 1), -10);
        C.due("tries stay", x.login(2, 2222), -10);
        x.power(true);
        x.selfTestStep(10);
        C.due("locks stay", x.login(2, 2222), -10);
        C.due("the old pin", x.login(1, 1111), -10);
        C.due("pins stay", x.login(1, 77), 0);
    }

    private static void selfTestSteps() {
        SealedModule x = new SealedModule();
        x.power(true);
        C.due("no step", x.selfTestStep(0), 10);
        C.due("one step", x.selfTestStep(1), 9);
        C.due("four steps", x.selfTestStep(4), 5);
        C.due("still testing", x.state(), 1);
        C.due("more than remain", x.selfTestStep(10), 0);
        C.due("ready", x.state(), 2);
        C.due("failed", x.counter(2), 0);
    }

    private static void selfTestRefusals() {
        SealedModule x = new SealedModule();
        C.due("off", x.selfTestStep(1), -2);
        x.power(true);
        C.due("n -1", x.selfTestStep(-1), -2);
        C.due("n 11", x.selfTestStep(11), -2);
        C.due("n lowest", x.selfTestStep(Integer.MIN_VALUE), -2);
        C.due("ready", Check.ready().selfTestStep(1), -2);
        C.due("officer", Check.officer().selfTestStep(1), -2);
        C.due("user", Check.user().selfTestStep(0), -2);
        C.due("in error", Check.inError().selfTestStep(0), -1);
        C.due("in error, n 10", Check.inError().selfTestStep(10), -1);
        C.due("in error, n 11", Check.inError().selfTestStep(11), -2);
        C.due("in error, n -1", Check.inError().selfTestStep(-1), -2);
    }

    private static void faults() {
        for (int test = 0; test < 10; test++) {
            SealedModule x = new SealedModule();
            x.fault(test);
            x.power(true);
            C.due("a fault before power(true), test " + test, x.selfTestStep(10), 0);
            x.power(true);
            x.fault(test);
            x.fault(test);
            C.due("the tests before " + test, x.selfTestStep(test), 10 - test);
            C.due("the faulty test " + test, x.selfTestStep(1), -1);
            C.due("state", x.state(), 5);
            C.due("failed", x.counter(2), 1);
            x.power(true);
            C.due("the fault has ended", x.selfTestStep(10), 0);
            C.due("failed", x.counter(2), 1);
        }
        SealedModule x = new SealedModule();
        C.illegalArgument("fault(-1)", () -> x.fault(-1));
        C.illegalArgument("fault(10)", () -> x.fault(10));
        C.illegalArgument("fault(32)", () -> x.fault(32));
        C.illegalArgument("fault in error", () -> Check.inError().fault(10));
    }

    private static void faultyTestAmongRightOnes() {
        SealedModule x = new SealedModule();
        x.power(true);
        x.selfTestStep(3);
        x.fault(2);
        x.fault(7);
        C.due("a test that is done", x.selfTestStep(4), 3);
        C.due("the next one fails", x.selfTestStep(10), -1);
        C.due("one failed", x.counter(2), 1);
        x.selfTestStep(10);
        C.due("no test more in error", x.counter(2), 1);
        C.due("login in error", x.login(1, 1111), -1);
        C.due("run in error", x.run(9, 0, 0, 0, 0), -1);
        x.power(false);
        C.due("off", x.state(), 0);
    }

    private static void zeroiseAllInEachState() {
        SealedModule off = new SealedModule();
        off.zeroiseAll();
        C.due("off stays", off.state(), 0);
        off.power(true);
        off.selfTestStep(4);
        off.zeroiseAll();
        C.due("testing stays", off.state(), 1);
        C.due("tests stay done", off.selfTestStep(0), 6);
        SealedModule error = Check.inError();
        error.zeroiseAll();
        C.due("error stays", error.state(), 5);
        SealedModule ready = Check.ready();
        ready.zeroiseAll();
        C.due("ready stays", ready.state(), 2);
        SealedModule user = Check.user();
        user.hash(0, 0, 0);
        user.zeroiseAll();
        C.due("user becomes ready", user.state(), 2);
        user.login(2, 2222);
        C.due("streams end", user.hash(1, 0, 0), -4);
    }

    private static void zeroiseAllForgets() {
        SealedModule x = Check.officer();
        x.poke(0, 0x1122334455667788L, 8);
        for (int i = 0; i < 16; i++) {
            x.load(i, 2, 63, 1 + i % 2, -1, 8);
        }
        x.setPin(1, 5);
        x.setPin(2, 6);
        Check.feed(x, 0, 40);
        x.run(11, 0, 100, 8, 0);
        x.logout();
        x.login(2, 1);
        x.login(2, 1);
        x.login(2, 1);
        x.login(1, 1);
        x.login(1, 1);
        int refused = x.counter(1);
        x.zeroiseAll();
        C.due("counters stay", x.counter(1), refused);
        for (int i = 0; i < 16; i++) {
            C.due("slot " + i, x.slotInfo(i, 0), -1);
        }
        x.login(1, 5);
        C.due("no tries, pins as at first", x.login(1, 1111), 0);
        C.due("the buffer stays", x.peek(0), 0x1122334455667788L);
        C.due("the generator and its words are forgotten", x.run(11, 0, 0, 8, 0), -8);
        x.logout();
        C.due("nobody locked", x.login(2, 2222), 0);
    }

    private static void zeroiseAllKeepsTheWatch() {
        SealedModule x = Check.ready();
        x.entropy(4);
        x.entropy(4);
        x.entropy(4);
        x.zeroiseAll();
        C.due("the row goes on", x.entropy(4), 0);
        x.zeroiseAll();
        C.due("health goes on", x.entropy(5), 0);
        SealedModule y = Check.ready();
        for (int i = 0; i < 5; i++) {
            C.due("window", y.entropy(3), 1);
            C.due("window", y.entropy(100 + i), 1);
        }
        y.zeroiseAll();
        C.due("the window goes on", y.entropy(3), 0);
    }
}
