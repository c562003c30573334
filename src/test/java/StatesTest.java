/** The terms STATES and TESTS, and the promises 1 to 4 and 11: a new object, power, selfTestStep, fault, state. */
public final class StatesTest {
    private static final Check C = new Check();

    public static void main(String[] args) {
        C.holds("An object is used for at most 512 calls after it has been made", StatesTest::lastCall);
        C.holds("a state of error that only .. switching leave", StatesTest::errorStays);
        C.holds("0 OFF, 1 TESTING, 2 READY, 3 OFFICER (logged in, role 1), 4 USER (role 2), 5 ERROR.",
                StatesTest::numbersOfStates);
        C.holds("power(true) (in each state): testing", StatesTest::powerOnInEachState);
        C.holds("with all TESTS to come", StatesTest::allTestsToCome);
        C.holds("the buffer 0", StatesTest::bufferZero);
        C.holds("no streams", StatesTest::noStreams);
        C.holds("the generator not made", StatesTest::generatorNotMade);
        C.holds("entropy forgotten", StatesTest::entropyForgotten);
        C.holds("entropy forgotten and healthy", StatesTest::healthyAgain);
        C.holds("slots, .. stay", StatesTest::slotsStay);
        C.holds("pins, .. stay", StatesTest::pinsStay);
        C.holds("locks .. stay", StatesTest::locksAndTriesStay);
        C.holds("COUNTERS stay.", StatesTest::countersStay);
        C.holds("power(false): off.", StatesTest::powerOffInEachState);
        C.holds("A test that comes right is done", StatesTest::rightTestIsDone);
        C.holds("one that does not: error (counter 2).", StatesTest::failedTestIsError);
        C.holds("When all are done: ready.", StatesTest::readyWhenAllAreDone);
        C.holds("TESTS, numbered: 0 .. 9", StatesTest::testsComeInOrder);
        C.holds("They come right but for a FAULT", StatesTest::rightWithoutFault);
        C.holds("a FAULT (told in any state)", StatesTest::faultInAnyState);
        C.holds("which lasts to the next power(true).", StatesTest::faultEnds);
        C.holds("Promise 1: Off", StatesTest::newObjectIsOff);
        C.holds("Promise 1: all as it is at first.", StatesTest::newObjectIsAsAtFirst);
        C.holds("Promise 2: Switches on (tests come) or off: the state.", StatesTest::powerAnswersTheState);
        C.holds("Promise 3: Does up to n tests (0 .. 10): how many remain", StatesTest::stepsOfEachSize);
        C.holds("Promise 3: Does up to n tests: no more than remain", StatesTest::stepPastTheLast);
        C.holds("Promise 3: -1 in error", StatesTest::stepInError);
        C.holds("Promise 3: -2 (first) when n is not so", StatesTest::stepOfWrongSize);
        C.holds("Promise 3: or it is neither testing nor in error.", StatesTest::stepInOtherStates);
        C.holds("Promise 4: That test sees one wrong byte until the next power(true).", StatesTest::faultBreaksItsTest);
        C.holds("Promise 4: IllegalArgumentException: there is none such.", StatesTest::noSuchTest);
        C.holds("Promise 11: The state, 0 to 5, as told above.", StatesTest::stateChangesNothing);
        C.finish();
    }

    private static void lastCall() {
        Counted x = Check.officer();
        x.hash(0, 0, 0);
        x.poke(0, 0x6162636465666768L, 8);
        byte[] buffer = Check.get(x, 0, 512);
        int takes = x.callsLeft() - 6;
        byte[][] pieces = new byte[takes][];
        for (int i = 0; i < takes; i++) {
            C.due("take " + i, x.hash(1, 0, 512), 512);
            pieces[i] = buffer;
        }
        x.hash(2, 0, 0);
        C.dueBytes("all that was taken in", Check.get(x, 0, 32), Reference.sha(Check.join(pieces)));
        C.due("the 512th call", x.counter(0), takes + 3);
        C.due("calls left", x.callsLeft(), 0);
    }

    private static void errorStays() {
        Counted x = Check.inError();
        x.selfTestStep(10);
        x.fault(1);
        x.poke(0, 1, 1);
        x.peek(0);
        x.login(1, 1111);
        x.setPin(1, 1111);
        x.entropy(1);
        x.slotInfo(0, 0);
        x.zeroise(0);
        x.zeroiseAll();
        x.load(0, 2, 0, 1, 0, 1);
        x.make(0, 2, 0, 1, 0, 1);
        x.derive(0, 1, 2, 0, 1, 0);
        x.wrap(0, 1);
        x.unwrap(0, 1, 24);
        x.run(9, 0, 0, 0, 0);
        x.hash(0, 0, 0);
        x.counter(0);
        x.same(0, 1);
        C.illegalState("logout", x::logout);
        C.due("behind all other calls", x.state(), 5);
        C.due("switched on", x.power(true), 1);
        C.due("switched off", Check.inError().power(false), 0);
    }

    private static void numbersOfStates() {
        for (int state = 0; state <= 5; state++) {
            C.due("state", Check.inState(state).state(), state);
        }
    }

    private static void powerOnInEachState() {
        for (int state = 0; state <= 5; state++) {
            Counted x = Check.inState(state);
            C.due("power(true) in " + state, x.power(true), 1);
            C.due("the state after it", x.state(), 1);
        }
    }

    private static void allTestsToCome() {
        for (int state = 0; state <= 5; state++) {
            Counted x = Check.inState(state);
            x.power(true);
            C.due("tests after power(true) in " + state, x.selfTestStep(0), 10);
        }
        for (int done = 1; done <= 9; done++) {
            Counted x = Check.testing();
            x.selfTestStep(done);
            x.power(true);
            C.due("tests to come when " + done + " were done", x.selfTestStep(0), 10);
        }
    }

    private static void bufferZero() {
        for (int state = 1; state <= 5; state++) {
            Counted x = Check.inState(state);
            for (int at = 0; at < 512; at += 8) {
                x.poke(at, -1, 8);
            }
            Check.bring(x, 3);
            C.dueBytes("buffer after power(true) in " + state, Check.get(x, 0, 512), new byte[512]);
        }
    }

    private static void noStreams() {
        for (int role = 1; role <= 2; role++) {
            for (int next = 1; next <= 2; next++) {
                Counted x = Check.inState(2 + role);
                x.hash(0, 0, 0);
                Check.bring(x, 2 + next);
                C.due("take of " + next + " after " + role, x.hash(1, 0, 0), -4);
                C.due("digest of " + next + " after " + role, x.hash(2, 0, 0), -4);
            }
        }
    }

    private static void generatorNotMade() {
        Counted x = Check.officer();
        Check.feed(x, 0, 12);
        C.due("made", x.run(11, 0, 0, 8, 0), 8);
        Check.bring(x, 3);
        Check.feed(x, 20, 11);
        C.due("eleven words do not make it", x.run(11, 0, 0, 8, 0), -8);
        Check.feed(x, 31, 1);
        C.due("twelve do", x.run(11, 0, 0, 32, 0), 32);
        C.dueBytes("of new words alone", Check.get(x, 0, 32),
                new Reference.Drbg(Check.wordBytes(20, 12)).next(32, new byte[0]));
        for (int i = 1; i < 64; i++) {
            x.run(11, 0, 0, 0, 0);
        }
        Check.bring(x, 3);
        Check.feed(x, 40, 8);
        C.due("what seeds again does not make it", x.run(11, 0, 0, 8, 0), -8);
        Check.feed(x, 48, 4);
        for (int i = 0; i < 64; i++) {
            C.due("64 requests from then on", x.run(11, 0, 0, 0, 0), 0);
        }
    }

    private static void entropyForgotten() {
        for (int way = 0; way <= 1; way++) {
            Counted x = Check.officer();
            Check.feed(x, 0, 64);
            if (way == 1) {
                x.power(false);
            }
            Check.bring(x, 3);
            C.due("no words", x.run(11, 0, 0, 8, 0), -8);
            Check.feed(x, 100, 12);
            C.due("new words", x.run(11, 0, 0, 32, 0), 32);
            C.dueBytes("of the new words", Check.get(x, 0, 32),
                    new Reference.Drbg(Check.wordBytes(100, 12)).next(32, new byte[0]));
        }
    }

    private static void healthyAgain() {
        for (int way = 0; way <= 1; way++) {
            Counted x = Check.testing();
            for (int i = 0; i < 4; i++) {
                x.entropy(7);
            }
            C.due("not healthy", x.entropy(8), 0);
            if (way == 1) {
                x.power(false);
            }
            x.power(true);
            C.due("healthy", x.entropy(8), 1);
        }
    }

    private static void slotsStay() {
        Counted x = Check.officer();
        Check.put(x, 0, Check.bytes(64, 1));
        x.load(0, 1, 5, 2, 1000000, 32);
        x.load(15, 2, 63, 1, 0, 64);
        for (int state = 0; state <= 5; state++) {
            Check.bring(x, state);
            x.power(true);
            int[] want = {1, 32, 5, 2, 1000000, 2, 64, 63, 1, 0};
            for (int i = 0; i < 10; i++) {
                C.due("slot after power(true) in " + state, x.slotInfo(i < 5 ? 0 : 15, i % 5), want[i]);
            }
            C.due("an empty one", x.slotInfo(1, 0), -1);
        }
        Check.put(x, 0, Check.bytes(64, 1));
        C.due("the key", x.same(0, 32), true);
        C.due("the key", x.same(15, 64), true);
    }

    private static void pinsStay() {
        Counted x = Check.officer();
        x.setPin(1, 0);
        x.setPin(2, 999999);
        x.power(false);
        Check.bring(x, 2);
        C.due("the first pin", x.login(1, 1111), -10);
        C.due("the new pin", x.login(1, 0), 0);
        Check.bring(x, 2);
        C.due("the user's", x.login(2, 999999), 0);
    }

    private static void locksAndTriesStay() {
        for (int role = 1; role <= 2; role++) {
            Counted x = Check.ready();
            x.login(role, 1);
            x.login(role, 1);
            Check.bring(x, 2);
            C.due("the third try", x.login(role, 1), -10);
            C.due("locked", x.login(role, 1111 * role), -10);
            x.power(false);
            Check.bring(x, 2);
            C.due("still locked", x.login(role, 1111 * role), -10);
        }
    }

    private static void countersStay() {
        Counted x = Check.inError();
        x.login(1, 1);
        Check.bring(x, 3);
        x.setPin(1, 1111);
        x.setPin(1, -1);
        for (int state = 0; state <= 1; state++) {
            x.power(state == 1);
            C.due("accepted", x.counter(0), 2);
            C.due("refused", x.counter(1), 2);
            C.due("failed", x.counter(2), 1);
        }
    }

    private static void powerOffInEachState() {
        for (int state = 0; state <= 5; state++) {
            Counted x = Check.inState(state);
            C.due("power(false) in " + state, x.power(false), 0);
            C.due("the state after it", x.state(), 0);
        }
    }

    private static void rightTestIsDone() {
        Counted x = Check.testing();
        for (int left = 9; left >= 0; left--) {
            C.due("one step", x.selfTestStep(1), left);
        }
        C.due("failed", x.counter(2), 0);
    }

    private static void failedTestIsError() {
        Counted x = Check.testing();
        x.fault(4);
        x.fault(6);
        C.due("the tests before it", x.selfTestStep(4), 6);
        C.due("still testing", x.state(), 1);
        C.due("the first of two with a fault", x.selfTestStep(1), -1);
        C.due("error", x.state(), 5);
        Counted y = Check.testing();
        y.fault(4);
        y.fault(6);
        C.due("one step over both", y.selfTestStep(10), -1);
        C.due("the one behind it was not done", y.counter(2), 1);
    }

    private static void readyWhenAllAreDone() {
        Counted x = Check.testing();
        x.selfTestStep(9);
        C.due("nine are done", x.state(), 1);
        C.due("login is too early", x.login(1, 1111), -1);
        x.selfTestStep(1);
        C.due("ten are done", x.state(), 2);
        C.due("login", x.login(1, 1111), 0);
    }

    private static void testsComeInOrder() {
        for (int test = 0; test < 10; test++) {
            Counted x = Check.testing();
            x.fault(test);
            C.due("the tests before " + test, x.selfTestStep(test), 10 - test);
            C.due("test " + test, x.selfTestStep(1), -1);
        }
    }

    private static void rightWithoutFault() {
        Counted x = new Counted();
        for (int time = 0; time < 3; time++) {
            x.power(true);
            C.due("all come right", x.selfTestStep(10), 0);
        }
        C.due("none failed", x.counter(2), 0);
    }

    private static void faultInAnyState() {
        for (int state = 0; state <= 5; state++) {
            Counted x = Check.inState(state);
            int failed = x.counter(2);
            x.fault(9);
            C.due("state after a fault", x.state(), state);
            C.due("nothing is tested by it", x.counter(2), failed);
        }
        Counted x = Check.testing();
        x.selfTestStep(3);
        x.fault(2);
        C.due("a test that is done is not done again", x.selfTestStep(10), 0);
        Counted y = Check.testing();
        y.selfTestStep(3);
        y.fault(3);
        C.due("the next one sees it", y.selfTestStep(10), -1);
    }

    private static void faultEnds() {
        for (int state = 0; state <= 5; state++) {
            Counted x = Check.inState(state);
            for (int test = 0; test < 10; test++) {
                x.fault(test);
            }
            x.power(true);
            C.due("faults of state " + state + " have ended", x.selfTestStep(10), 0);
        }
        Counted x = Check.testing();
        x.selfTestStep(5);
        x.fault(5);
        x.zeroiseAll();
        C.due("zeroising does not end it", x.selfTestStep(1), -1);
    }

    private static void newObjectIsOff() {
        C.due("state", new Counted().state(), 0);
    }

    private static void newObjectIsAsAtFirst() {
        Counted x = new Counted();
        for (int slot = 0; slot < 16; slot++) {
            C.due("slot " + slot, x.slotInfo(slot, 0), -1);
        }
        for (int kind = 0; kind < 3; kind++) {
            C.due("counter " + kind, x.counter(kind), 0);
        }
        Check.bring(x, 2);
        C.due("the officer's pin", x.login(1, 1111), 0);
        C.dueBytes("buffer", Check.get(x, 0, 512), new byte[512]);
        C.due("stream", x.hash(1, 0, 0), -4);
        C.due("entropy", x.run(11, 0, 0, 0, 0), -8);
        x.logout();
        C.due("the user's pin", x.login(2, 2222), 0);
    }

    private static void powerAnswersTheState() {
        Counted x = new Counted();
        boolean[] ways = {false, true, true, false, false, true};
        for (boolean on : ways) {
            C.due("power", x.power(on), on ? 1 : 0);
            C.due("state", x.state(), on ? 1 : 0);
            C.due("tests", x.selfTestStep(0), on ? 10 : -2);
        }
    }

    private static void stepsOfEachSize() {
        for (int n = 0; n <= 10; n++) {
            Counted x = Check.testing();
            C.due("step of " + n, x.selfTestStep(n), 10 - n);
            C.due("its state", x.state(), n == 10 ? 2 : 1);
        }
    }

    private static void stepPastTheLast() {
        for (int done = 1; done <= 9; done++) {
            Counted x = Check.testing();
            x.selfTestStep(done);
            C.due("step of 10 behind " + done, x.selfTestStep(10), 0);
            C.due("its state", x.state(), 2);
        }
    }

    private static void stepInError() {
        Counted x = Check.inError();
        for (int n = 0; n <= 10; n++) {
            C.due("step of " + n, x.selfTestStep(n), -1);
        }
        C.due("no test was done", x.counter(2), 1);
        C.due("state", x.state(), 5);
    }

    private static void stepOfWrongSize() {
        int[] wrong = {-1, 11, Check.LOWEST, Check.HIGHEST};
        for (int n : wrong) {
            for (int state = 0; state <= 5; state++) {
                C.due("step of " + n + " in " + state, Check.inState(state).selfTestStep(n), -2);
            }
            Counted x = Check.testing();
            x.selfTestStep(n);
            C.due("nothing was done", x.selfTestStep(0), 10);
        }
    }

    private static void stepInOtherStates() {
        int[] others = {0, 2, 3, 4};
        for (int state : others) {
            Counted x = Check.inState(state);
            C.due("step of 0 in " + state, x.selfTestStep(0), -2);
            C.due("step of 10 in " + state, x.selfTestStep(10), -2);
            C.due("the state stays", x.state(), state);
        }
    }

    private static void faultBreaksItsTest() {
        for (int test = 0; test < 10; test++) {
            Counted x = Check.testing();
            x.fault(test);
            x.fault(test);
            C.due("test " + test, x.selfTestStep(10), -1);
            C.due("failed", x.counter(2), 1);
            x.power(true);
            C.due("behind power(true)", x.selfTestStep(10), 0);
            C.due("failed", x.counter(2), 1);
        }
    }

    private static void noSuchTest() {
        int[] wrong = {-1, 10, 32, 42, Check.LOWEST, Check.HIGHEST};
        for (int test : wrong) {
            for (int state = 0; state <= 5; state++) {
                Counted x = Check.inState(state);
                C.illegalArgument("fault(" + test + ") in " + state, () -> x.fault(test));
            }
            Counted x = Check.testing();
            C.illegalArgument("fault(" + test + ")", () -> x.fault(test));
            C.due("no test sees it", x.selfTestStep(10), 0);
        }
    }

    private static void stateChangesNothing() {
        for (int state = 0; state <= 5; state++) {
            Counted x = Check.inState(state);
            int counted = x.counter(0) + x.counter(1);
            C.due("state", x.state(), state);
            C.due("state again", x.state(), state);
            C.due("not counted", x.counter(0) + x.counter(1), counted);
        }
    }
}
