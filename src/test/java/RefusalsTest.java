import java.util.Arrays;

/** The term REFUSALS: each of them, their order, and that nothing else changes. */
public final class RefusalsTest {
    private static final Check C = new Check();
    private static final int EMPTY = 15;

    public static void main(String[] args) {
        C.holds("the first that holds counts: login, setPin, zeroise, hash", RefusalsTest::orderOfShortCalls);
        C.holds("the first that holds counts: load, make", RefusalsTest::orderOfNewKeys);
        C.holds("the first that holds counts: derive", RefusalsTest::orderOfDerive);
        C.holds("the first that holds counts: wrap", RefusalsTest::orderOfWrap);
        C.holds("the first that holds counts: unwrap", RefusalsTest::orderOfUnwrap);
        C.holds("the first that holds counts: run", RefusalsTest::orderOfRun);
        C.holds("nothing changes then but counters", RefusalsTest::nothingChanges);
        C.holds("a pin's tries and a lock", RefusalsTest::triesAndLockChange);
        C.holds("-1 the state (.. others: not officer or user)", RefusalsTest::states);
        C.holds("-2 a number that is not so (of slot", RefusalsTest::numbersOfSlots);
        C.holds("-2 .. service", RefusalsTest::numbersOfServices);
        C.holds("-2 .. step", RefusalsTest::numbersOfSteps);
        C.holds("-2 .. kind", RefusalsTest::numbersOfKinds);
        C.holds("-2 .. usage 0 .. 63", RefusalsTest::numbersOfUsage);
        C.holds("-2 .. role", RefusalsTest::numbersOfRoles);
        C.holds("-2 .. uses", RefusalsTest::numbersOfUses);
        C.holds("-2 .. pin", RefusalsTest::numbersOfPins);
        C.holds("-2 .. a key's length 1 .. 64", RefusalsTest::lengthsOfKeys);
        C.holds("-2 .. other lengths as told with the call", RefusalsTest::otherLengths);
        C.holds("-2 .. a place", RefusalsTest::places);
        C.holds("-3 the role's holder is needed (officer for setPin, load, make", RefusalsTest::officerIsNeeded);
        C.holds("the role of a slot that is not empty for all that uses or zeroises it)", RefusalsTest::holderIsNeeded);
        C.holds("-4 a slot is empty", RefusalsTest::emptySlots);
        C.holds("or, where one is to be filled, not empty", RefusalsTest::fullSlots);
        C.holds("-5 the kind or length of a key", RefusalsTest::kindsOfKeys);
        C.holds("(also of the new one)", RefusalsTest::lengthsOfNewKeys);
        C.holds("-6 the usage bit", RefusalsTest::usageBits);
        C.holds("-7 no uses left", RefusalsTest::noUsesLeft);
        C.holds("-9 the check fails", RefusalsTest::checksFail);
        C.holds("-10 the pin (or the role is locked)", RefusalsTest::pins);
        C.holds("What uses a key takes one of its uses", RefusalsTest::eachUseIsTaken);
        C.holds("also when it answers -9.", RefusalsTest::failedCheckTakesUse);
        C.finish();
    }

    /**
     * Keys for each refusal, seen from the officer: 0 AES and 1 MAC without fault, 2 MAC and 3 AES of the user
     * with all faults, 4 AES and 5 MAC without bits and uses, 6 AES and 7 MAC without uses; the rest is empty.
     */
    private static Counted withKeys() {
        Counted x = Check.officer();
        Check.put(x, 0, Check.bytes(512, 40));
        x.load(0, 1, 63, 1, -1, 16);
        x.load(1, 2, 63, 1, -1, 16);
        x.load(2, 2, 0, 2, 0, 9);
        x.load(3, 1, 0, 2, 0, 16);
        x.load(4, 1, 0, 1, 0, 16);
        x.load(5, 2, 0, 1, 0, 9);
        x.load(6, 1, 63, 1, 0, 16);
        x.load(7, 2, 63, 1, 0, 8);
        return x;
    }

    /** A key for each role in slots 1 and 2, and everything right but the role of who asks. */
    private static Counted withKeyOfEachRole(int kind, int asking) {
        Counted x = Check.officer();
        x.load(1, kind, 63, 1, -1, 16);
        x.load(2, kind, 63, 2, -1, 16);
        x.load(11, 1, 63, 1, -1, 16);
        x.load(12, 1, 63, 2, -1, 16);
        if (asking == 2) {
            Check.change(x, 2);
        }
        return x;
    }

    private static int bitOf(int service) {
        return service == 8 || service == 10 ? 4 : service == 2 || service == 4 || service == 7 ? 2 : 1;
    }

    private static int kindOf(int service) {
        return service == 10 ? 2 : 1;
    }

    private static boolean needsKey(int service) {
        return service != 9 && service != 11;
    }

    private static void derives(Counted x, int[][] rows) {
        for (int[] r : rows) {
            C.due("derive " + Arrays.toString(r), x.derive(r[1], r[2], r[3], r[4], r[5], r[6]), r[0]);
        }
    }

    private static void loads(Counted x, int[][] rows) {
        for (int[] r : rows) {
            C.due("load " + Arrays.toString(r), x.load(r[1], r[2], r[3], r[4], r[5], r[6]), r[0]);
            C.due("make " + Arrays.toString(r), x.make(r[1], r[2], r[3], r[4], r[5], r[6]), r[0]);
        }
    }

    private static void orderOfShortCalls() {
        C.due("login: state before role", Check.testing().login(3, 1), -1);
        C.due("login: state before pin", Check.testing().login(1, 1), -1);
        C.due("login: role before pin", Check.ready().login(3, 1), -2);
        C.due("setPin: state before number", Check.ready().setPin(3, -1), -1);
        C.due("setPin: role before officer", Check.user().setPin(3, 1), -2);
        C.due("setPin: pin before officer", Check.user().setPin(1, -1), -2);
        C.due("zeroise: state before number", Check.ready().zeroise(16), -1);
        C.due("zeroise: state before emptiness", Check.ready().zeroise(0), -1);
        Counted x = withKeys();
        x.logout();
        C.due("zeroise: state before role", x.zeroise(2), -1);
        C.due("hash: state before number", Check.ready().hash(3, 0, 0), -1);
        C.due("hash: state before a stream", Check.ready().hash(1, 0, 0), -1);
        C.due("hash: number before a stream", Check.officer().hash(1, 0, 513), -2);
        C.due("hash: place before a stream", Check.officer().hash(2, 481, 0), -2);
    }

    private static void orderOfNewKeys() {
        Counted x = withKeys();
        int[][] officer = {
            {-2, 0, 3, 1, 1, 1, 16}, {-2, 0, 1, 1, 1, 1, 65}, {-2, 0, 1, 1, 1, 1, 0}, {-2, EMPTY, 1, 1, 1, 1, 65},
            {-4, 0, 1, 1, 1, 1, 17}, {-4, 2, 1, 1, 1, 1, 16}, {-5, EMPTY, 1, 1, 1, 1, 17},
        };
        loads(x, officer);
        C.due("make: entropy comes last", x.make(EMPTY, 1, 1, 1, 1, 16), -8);
        Check.change(x, 2);
        int[][] user = {
            {-2, EMPTY, 1, 1, 3, 1, 16}, {-2, EMPTY, 1, 64, 1, 1, 16}, {-2, 16, 1, 1, 1, 1, 16},
            {-2, EMPTY, 1, 1, 1, 1, 65}, {-3, 0, 1, 1, 1, 1, 16}, {-3, EMPTY, 1, 1, 1, 1, 17},
            {-3, EMPTY, 1, 1, 2, 1, 16},
        };
        loads(x, user);
        x.logout();
        int[][] ready = {{-1, 16, 3, 64, 3, -2, 65}, {-1, 0, 1, 1, 1, 1, 17}, {-1, EMPTY, 1, 1, 1, 1, 17}};
        loads(x, ready);
    }

    private static void orderOfDerive() {
        Counted x = withKeys();
        int[][] officer = {
            {-2, 16, 3, 2, 1, 8, 0}, {-2, 0, 3, 3, 1, 8, 0}, {-2, 0, EMPTY, 2, 64, 8, 0}, {-2, EMPTY, 4, 2, 1, 65, 0},
            {-2, EMPTY, 5, 2, 1, 8, 65}, {-2, EMPTY, 7, 2, 1, 8, -1},
            {-3, 0, 2, 2, 1, 8, 0}, {-3, EMPTY, 3, 2, 1, 8, 0}, {-3, EMPTY, 2, 1, 1, 17, 0}, {-3, EMPTY, 2, 2, 1, 8, 0},
            {-4, EMPTY, 14, 1, 1, 17, 0}, {-4, 0, 4, 2, 1, 8, 0}, {-4, 0, 1, 1, 1, 17, 0}, {-4, 0, 5, 2, 1, 8, 0},
            {-4, 0, 7, 2, 1, 8, 0}, {-4, 2, 1, 2, 1, 8, 0},
            {-5, EMPTY, 4, 2, 1, 8, 0}, {-5, EMPTY, 5, 1, 1, 17, 0}, {-5, EMPTY, 6, 2, 1, 8, 0}, {-5, EMPTY, 7, 1, 1, 17, 0},
            {-6, EMPTY, 5, 2, 1, 8, 0}, {-7, EMPTY, 7, 2, 1, 8, 0}, {0, EMPTY, 1, 2, 1, 8, 0},
        };
        derives(x, officer);
        x.logout();
        int[][] ready = {{-1, 16, 0, 2, 1, 8, 0}, {-1, 0, 3, 2, 1, 8, 0}, {-1, 14, 7, 2, 1, 8, 0}};
        derives(x, ready);
    }

    private static void orderOfWrap() {
        Counted x = withKeys();
        int[][] officer = {
            {-2, 2, 2}, {-2, 16, 3}, {-2, 2, 16}, {-2, EMPTY, EMPTY}, {-2, 5, 5},
            {-3, 2, EMPTY}, {-3, EMPTY, 3}, {-3, 2, 1}, {-3, 5, 3}, {-3, 2, 0}, {-3, 0, 2}, {-3, 7, 3},
            {-4, EMPTY, 1}, {-4, 5, EMPTY}, {-4, EMPTY, 4}, {-4, EMPTY, 6}, {-4, 7, EMPTY},
            {-5, 4, 1}, {-5, 5, 0}, {-5, 5, 4}, {-5, 0, 5}, {-5, 5, 6}, {-5, 6, 7},
            {-6, 4, 0}, {-6, 0, 4}, {-6, 4, 6}, {-6, 7, 4}, {-7, 7, 0}, {-7, 1, 6}, {-7, 7, 6}, {32, 1, 0},
        };
        for (int[] r : officer) {
            C.due("wrap " + Arrays.toString(r), x.wrap(r[1], r[2]), r[0]);
        }
        x.logout();
        C.due("state before number", x.wrap(16, 16), -1);
        C.due("state before role", x.wrap(2, 3), -1);
    }

    private static void orderOfUnwrap() {
        Counted x = withKeys();
        int[][] officer = {
            {-2, 16, 3, 32}, {-2, EMPTY, 16, 32}, {-2, EMPTY, 3, 25}, {-2, 0, EMPTY, 16}, {-2, EMPTY, 5, 88},
            {-3, 0, 3, 32}, {-3, EMPTY, 2, 32}, {-3, EMPTY, 3, 32}, {-3, 2, 3, 32},
            {-4, 0, 5, 32}, {-4, EMPTY, 14, 32}, {-4, 2, 0, 32}, {-4, 0, 4, 32}, {-4, 0, 6, 32}, {-4, 0, 0, 32}, {-4, 0, 14, 32},
            {-5, EMPTY, 5, 32}, {-5, EMPTY, 7, 32}, {-5, EMPTY, 1, 32},
            {-6, EMPTY, 4, 32}, {-7, EMPTY, 6, 32}, {-9, EMPTY, 0, 32},
        };
        for (int[] r : officer) {
            C.due("unwrap " + Arrays.toString(r), x.unwrap(r[1], r[2], r[3]), r[0]);
        }
        x.logout();
        C.due("state before number", x.unwrap(16, 0, 31), -1);
        C.due("state before role", x.unwrap(EMPTY, 3, 32), -1);
    }

    private static void orderOfRun() {
        for (int service = 1; service <= 10; service++) {
            if (!needsKey(service)) {
                continue;
            }
            Counted x = withKeys();
            boolean aes = kindOf(service) == 1;
            String what = "service " + service;
            C.due(what + ": number before role", x.run(service, 2, 497, 48, 0), -2);
            C.due(what + ": number before emptiness", x.run(service, EMPTY, -1, 48, 0), -2);
            C.due(what + ": number before kind", x.run(service, aes ? 5 : 4, 0, 513, 0), -2);
            C.due(what + ": m before uses", x.run(service, aes ? 6 : 7, 0, 48, 65), -2);
            C.due(what + ": role before kind", x.run(service, aes ? 2 : 3, 0, 48, 0), -3);
            C.due(what + ": role before usage", x.run(service, aes ? 3 : 2, 0, 48, 0), -3);
            C.due(what + ": an empty slot has no role", x.run(service, EMPTY, 0, 48, 0), -4);
            C.due(what + ": kind before usage", x.run(service, aes ? 5 : 4, 0, 48, 0), -5);
            C.due(what + ": kind before uses", x.run(service, aes ? 7 : 6, 0, 48, 0), -5);
            C.due(what + ": usage before uses", x.run(service, aes ? 4 : 5, 0, 48, 0), -6);
            C.due(what + ": uses before the check", x.run(service, aes ? 6 : 7, 0, 48, 0), -7);
            x.logout();
            C.due(what + ": state before number", x.run(service, 16, 0, 48, 0), -1);
            C.due(what + ": state before role", x.run(service, 2, 0, 48, 0), -1);
        }
        C.due("service 9: state before number", Check.ready().run(9, 0, -1, 0, 0), -1);
        C.due("service 11: state before number", Check.ready().run(11, 0, 0, 257, 0), -1);
        C.due("service 11: state before entropy", Check.ready().run(11, 0, 0, 0, 0), -1);
        C.due("service 11: number before entropy", Check.officer().run(11, 0, 0, 257, 0), -2);
        C.due("no service: state before number", Check.ready().run(0, 0, 0, 0, 0), -1);
    }

    private static void nothingChanges() {
        Counted one = withKeys();
        Counted other = withKeys();
        Counted[] both = {one, other};
        for (Counted x : both) {
            Check.feed(x, 0, 12);
            x.run(11, 0, 100, 8, 0);
            Check.feed(x, 12, 3);
            x.hash(0, 0, 0);
            x.hash(1, 0, 77);
        }
        int refused = refuseAll(one);
        C.due("refused", one.counter(1), refused);
        C.due("accepted", one.counter(0), other.counter(0));
        C.due("failed", one.counter(2), 0);
        C.due("state", one.state(), 3);
        for (int slot = 0; slot < 16; slot++) {
            for (int what = 0; what < (slot < 8 ? 5 : 1); what++) {
                C.due("slot " + slot + ", " + what, one.slotInfo(slot, what), other.slotInfo(slot, what));
            }
        }
        C.dueBytes("buffer", Check.get(one, 0, 512), Check.get(other, 0, 512));
        one.hash(2, 0, 0);
        other.hash(2, 0, 0);
        one.run(11, 0, 32, 64, 0);
        other.run(11, 0, 32, 64, 0);
        one.run(8, 0, 100, 0, 0);
        other.run(8, 0, 100, 0, 0);
        one.run(10, 1, 200, 0, 0);
        other.run(10, 1, 200, 0, 0);
        C.dueBytes("stream, generator and keys", Check.get(one, 0, 232), Check.get(other, 0, 232));
        one.logout();
        C.due("pin", one.login(2, 2222), 0);
    }

    /** Calls that are refused in each way that there is for an officer: how many. */
    private static int refuseAll(Counted x) {
        int[] answers = {
            x.login(1, 1111), x.login(2, 1), x.setPin(3, 1), x.setPin(2, 1000000), x.setPin(2, -1),
            x.load(16, 1, 1, 1, 1, 16), x.load(0, 2, 1, 1, 1, 16), x.load(14, 1, 1, 1, 1, 17), x.load(14, 1, 1, 1, 1, 65),
            x.make(16, 1, 1, 1, 1, 16), x.make(0, 2, 1, 1, 1, 16), x.make(14, 1, 1, 1, 1, 17), x.make(14, 1, 1, 1, 1, 65),
            x.derive(14, 1, 2, 1, 65, 0), x.derive(14, 3, 2, 1, 8, 0), x.derive(14, 13, 2, 1, 8, 0),
            x.derive(0, 1, 2, 1, 8, 0), x.derive(14, 0, 2, 1, 8, 0), x.derive(14, 1, 1, 1, 17, 0),
            x.derive(14, 5, 2, 1, 8, 0), x.derive(14, 7, 2, 1, 8, 0),
            x.wrap(0, 0), x.wrap(2, 0), x.wrap(1, 14), x.wrap(0, 1), x.wrap(5, 0), x.wrap(4, 0), x.wrap(7, 0), x.wrap(1, 6),
            x.unwrap(14, 0, 81), x.unwrap(14, 3, 32), x.unwrap(14, 13, 32), x.unwrap(1, 0, 32), x.unwrap(14, 1, 32),
            x.unwrap(14, 4, 32), x.unwrap(14, 6, 32), x.unwrap(14, 0, 32), x.unwrap(14, 0, 80),
            x.run(0, 0, 0, 16, 0), x.run(12, 0, 0, 16, 0), x.run(1, 0, 0, 15, 0), x.run(1, 0, 497, 16, 0),
            x.run(1, 3, 0, 16, 0), x.run(1, 14, 0, 16, 0), x.run(1, 1, 0, 16, 0), x.run(1, 4, 0, 16, 0),
            x.run(1, 6, 0, 16, 0), x.run(6, 0, 485, 12, 0), x.run(7, 0, 0, 28, 0), x.run(7, 0, 0, 512, 64),
            x.run(8, 0, 497, 0, 0), x.run(9, 0, 481, 0, 0), x.run(10, 0, 0, 16, 0), x.run(10, 5, 0, 16, 0),
            x.run(11, 0, 0, 257, 0), x.run(11, 0, 0, 8, 65), x.run(11, 0, 505, 8, 0),
            x.hash(3, 0, 0), x.hash(-1, 0, 0), x.hash(1, 1, 512), x.hash(1, 0, -1), x.hash(2, 481, 0),
            x.zeroise(16), x.zeroise(2), x.zeroise(14),
        };
        for (int i = 0; i < answers.length; i++) {
            C.due("call " + i + " is refused: " + answers[i], answers[i] < 0, true);
        }
        return answers.length;
    }

    private static void triesAndLockChange() {
        Counted x = Check.ready();
        x.login(2, 1);
        x.login(2, 1);
        C.due("the third is refused", x.login(2, 1), -10);
        C.due("and locks", x.login(2, 2222), -10);
        C.due("each is counted", x.counter(1), 4);
    }

    private static void states() {
        for (int state = 0; state <= 5; state++) {
            Counted x = Check.officer();
            x.load(0, 1, 63, 1, -1, 16);
            x.load(1, 2, 63, 1, -1, 16);
            x.load(2, 1, 63, 2, -1, 16);
            x.load(3, 2, 63, 2, -1, 16);
            Check.bring(x, state);
            Check.feed(x, 0, state == 0 ? 0 : 12);
            boolean open = state == 3 || state == 4;
            int own = state == 4 ? 2 : 0;
            int[] answers = {
                x.setPin(1, 1111), x.load(8, 2, 0, 1, 0, 1), x.make(9, 2, 0, 1, 0, 1), x.derive(10, own + 1, 2, 0, 1, 0),
                x.wrap(own + 1, own), x.unwrap(11, own, 32), x.run(9, 0, 0, 0, 0), x.run(11, 0, 0, 0, 0),
                x.run(1, own, 0, 16, 0), x.hash(0, 0, 0), x.zeroise(own),
            };
            for (int i = 0; i < answers.length; i++) {
                C.due("call " + i + " in " + state, answers[i] == -1, !open);
            }
        }
    }

    private static void numbersOfSlots() {
        Counted x = withKeys();
        int[] wrong = {-1, 16, Check.LOWEST, Check.HIGHEST};
        for (int slot : wrong) {
            C.due("load to " + slot, x.load(slot, 2, 0, 1, 0, 1), -2);
            C.due("make to " + slot, x.make(slot, 2, 0, 1, 0, 1), -2);
            C.due("derive to " + slot, x.derive(slot, 1, 2, 0, 1, 0), -2);
            C.due("derive from " + slot, x.derive(EMPTY, slot, 2, 0, 1, 0), -2);
            C.due("wrap of " + slot, x.wrap(slot, 0), -2);
            C.due("wrap by " + slot, x.wrap(1, slot), -2);
            C.due("unwrap to " + slot, x.unwrap(slot, 0, 32), -2);
            C.due("unwrap by " + slot, x.unwrap(EMPTY, slot, 32), -2);
            C.due("zeroise " + slot, x.zeroise(slot), -2);
            for (int service = 1; service <= 10; service++) {
                C.due("service " + service + " by " + slot, x.run(service, slot, 0, 48, 0), service == 9 ? 32 : -2);
            }
        }
    }

    private static void numbersOfServices() {
        Counted x = withKeys();
        int[] wrong = {0, -1, 12, 16, Check.LOWEST, Check.HIGHEST};
        for (int service : wrong) {
            C.due("service " + service, x.run(service, 0, 0, 48, 0), -2);
        }
    }

    private static void numbersOfSteps() {
        Counted x = Check.officer();
        x.hash(0, 0, 0);
        int[] wrong = {-1, 3, Check.LOWEST, Check.HIGHEST};
        for (int step : wrong) {
            C.due("step " + step, x.hash(step, 0, 0), -2);
        }
    }

    private static void numbersOfKinds() {
        Counted x = withKeys();
        int[] wrong = {-1, 0, 3, 257, Check.LOWEST, Check.HIGHEST};
        for (int kind : wrong) {
            C.due("load of kind " + kind, x.load(EMPTY, kind, 0, 1, 0, 16), -2);
            C.due("make of kind " + kind, x.make(EMPTY, kind, 0, 1, 0, 16), -2);
            C.due("derive of kind " + kind, x.derive(EMPTY, 1, kind, 0, 16, 0), -2);
        }
    }

    private static void numbersOfUsage() {
        Counted x = withKeys();
        int[] wrong = {-1, 64, 128, Check.LOWEST, Check.HIGHEST};
        for (int usage : wrong) {
            C.due("load for " + usage, x.load(EMPTY, 2, usage, 1, 0, 16), -2);
            C.due("make for " + usage, x.make(EMPTY, 2, usage, 1, 0, 16), -2);
            C.due("derive for " + usage, x.derive(EMPTY, 1, 2, usage, 16, 0), -2);
        }
        int[] right = {0, 63};
        Check.feed(x, 0, 12);
        for (int usage : right) {
            C.due("load for " + usage, x.load(12, 2, usage, 1, 0, 16), 0);
            C.due("make for " + usage, x.make(13, 2, usage, 1, 0, 16), 0);
            C.due("derive for " + usage, x.derive(14, 1, 2, usage, 16, 0), 0);
            for (int slot = 12; slot <= 14; slot++) {
                C.due("usage", x.slotInfo(slot, 2), usage);
                x.zeroise(slot);
            }
        }
    }

    private static void numbersOfRoles() {
        Counted x = Check.officer();
        int[] wrong = {-1, 0, 3, Check.LOWEST, Check.HIGHEST};
        for (int role : wrong) {
            C.due("load for " + role, x.load(0, 2, 0, role, 0, 1), -2);
            C.due("make for " + role, x.make(0, 2, 0, role, 0, 1), -2);
            C.due("setPin of " + role, x.setPin(role, 1), -2);
            C.due("login of " + role, Check.ready().login(role, 1111), -2);
        }
    }

    private static void numbersOfUses() {
        Counted x = Check.officer();
        Check.feed(x, 0, 12);
        int[] wrong = {-2, 1000001, Check.LOWEST, Check.HIGHEST};
        for (int uses : wrong) {
            C.due("load with " + uses, x.load(0, 2, 0, 1, uses, 1), -2);
            C.due("make with " + uses, x.make(0, 2, 0, 1, uses, 1), -2);
        }
        int[] right = {-1, 0, 1, 1000000};
        for (int i = 0; i < right.length; i++) {
            C.due("load with " + right[i], x.load(i, 2, 0, 1, right[i], 1), 0);
            C.due("make with " + right[i], x.make(8 + i, 2, 0, 1, right[i], 1), 0);
            C.due("uses", x.slotInfo(i, 4), right[i]);
            C.due("uses", x.slotInfo(8 + i, 4), right[i]);
        }
    }

    private static void numbersOfPins() {
        Counted x = Check.officer();
        int[] wrong = {-1, 1000000, Check.LOWEST, Check.HIGHEST};
        for (int pin : wrong) {
            C.due("setPin to " + pin, x.setPin(2, pin), -2);
            C.due("login with " + pin + " is a wrong pin only", Check.ready().login(2, pin), -10);
        }
        C.due("setPin to 0", x.setPin(2, 0), 0);
        C.due("setPin to 999999", x.setPin(2, 999999), 0);
    }

    private static void otherLengths() {
        Counted x = withKeys();
        Check.feed(x, 0, 12);
        x.hash(0, 0, 0);
        int[] labels = {-1, 65};
        for (int m : labels) {
            C.due("derive with " + m, x.derive(EMPTY, 1, 2, 0, 8, m), -2);
            C.due("GCM seal with " + m, x.run(6, 0, 0, 200, m), -2);
            C.due("GCM open with " + m, x.run(7, 0, 0, 200, m), -2);
            C.due("generator with " + m, x.run(11, 0, 0, 8, m), -2);
        }
        int[] wrapped = {16, 23, 25, 79, 81, 88};
        for (int n : wrapped) {
            C.due("unwrap of " + n, x.unwrap(EMPTY, 0, n), -2);
        }
        int[][] services = {
            {1, 15}, {1, 17}, {2, 15}, {2, 17}, {3, 0}, {3, 15}, {3, 17}, {4, 0}, {4, 15}, {4, 17}, {5, 15}, {6, 11}, {7, 27},
            {8, -1}, {8, 513}, {9, -1}, {9, 513}, {11, -1}, {11, 257},
        };
        for (int[] r : services) {
            C.due("service " + r[0] + " of " + r[1], x.run(r[0], 0, 0, r[1], 0), -2);
        }
        C.due("HMAC of -1", x.run(10, 1, 0, -1, 0), -2);
        C.due("HMAC of 513", x.run(10, 1, 0, 513, 0), -2);
        C.due("take of -1", x.hash(1, 0, -1), -2);
        C.due("take of 513", x.hash(1, 0, 513), -2);
    }

    private static void places() {
        Counted x = withKeys();
        Check.feed(x, 0, 12);
        x.hash(0, 0, 0);
        int[] wrong = {-1, 465, 512, 513, Check.LOWEST, Check.HIGHEST, Check.HIGHEST - 47};
        for (int at : wrong) {
            for (int service = 1; service <= 11; service++) {
                C.due("service " + service + " at " + at, x.run(service, kindOf(service) - 1, at, 48, 0), -2);
            }
            C.due("take at " + at, x.hash(1, at, 48), -2);
        }
        C.due("digest at -1", x.hash(2, -1, 0), -2);
        C.due("digest at 481", x.hash(2, 481, 0), -2);
    }

    private static void lengthsOfKeys() {
        Counted x = withKeys();
        Check.feed(x, 0, 12);
        int[] wrong = {-1, 0, 65, Check.LOWEST, Check.HIGHEST};
        for (int n : wrong) {
            for (int kind = 1; kind <= 2; kind++) {
                C.due("load of " + n, x.load(EMPTY, kind, 0, 1, 0, n), -2);
                C.due("make of " + n, x.make(EMPTY, kind, 0, 1, 0, n), -2);
                C.due("derive of " + n, x.derive(EMPTY, 1, kind, 0, n, 0), -2);
            }
        }
        int[] right = {1, 64};
        for (int n : right) {
            C.due("load of " + n, x.load(12, 2, 0, 1, 0, n), 0);
            C.due("make of " + n, x.make(13, 2, 0, 1, 0, n), 0);
            C.due("derive of " + n, x.derive(14, 1, 2, 0, n, 0), 0);
            for (int slot = 12; slot <= 14; slot++) {
                C.due("length", x.slotInfo(slot, 1), n);
                x.zeroise(slot);
            }
        }
    }

    private static void officerIsNeeded() {
        for (int role = 1; role <= 2; role++) {
            Counted x = Check.user();
            Check.feed(x, 0, 12);
            C.due("setPin of " + role, x.setPin(role, 1), -3);
            C.due("load for " + role, x.load(0, 2, 63, role, -1, 16), -3);
            C.due("make for " + role, x.make(0, 2, 63, role, -1, 16), -3);
            C.due("the slot stays empty", x.slotInfo(0, 0), -1);
            Counted y = Check.officer();
            Check.feed(y, 0, 12);
            C.due("setPin of " + role, y.setPin(role, 1), 0);
            C.due("load for " + role, y.load(0, 2, 63, role, -1, 16), 0);
            C.due("make for " + role, y.make(1, 2, 63, role, -1, 16), 0);
        }
        Counted z = withKeyOfEachRole(2, 2);
        C.due("the user derives", z.derive(5, 2, 2, 63, 16, 0), 0);
        C.due("the user wraps", z.wrap(5, 12), 32);
        C.due("the user unwraps", z.unwrap(6, 12, 32), 0);
        C.due("the user zeroises", z.zeroise(6), 0);
        C.due("the user runs", z.run(10, 2, 0, 0, 0), 32);
    }

    private static void holderIsNeeded() {
        for (int asking = 1; asking <= 2; asking++) {
            int own = asking;
            int foreign = 3 - asking;
            for (int service = 1; service <= 10; service++) {
                if (needsKey(service)) {
                    Counted x = withKeyOfEachRole(kindOf(service), asking);
                    C.due("service " + service + " by the other's", x.run(service, foreign, 0, 48, 0), -3);
                    int answer = x.run(service, own, 0, 48, 0);
                    C.due("service " + service + " by an own one", answer > 0 || answer == -9, true);
                }
            }
            Counted x = withKeyOfEachRole(2, asking);
            C.due("derive from the other's", x.derive(5, foreign, 2, 63, 16, 0), -3);
            C.due("derive from an own one", x.derive(5, own, 2, 63, 16, 0), 0);
            C.due("wrap of the other's", x.wrap(foreign, 10 + own), -3);
            C.due("wrap by the other's", x.wrap(own, 10 + foreign), -3);
            C.due("wrap of an own by an own", x.wrap(own, 10 + own), 32);
            C.due("unwrap by the other's", x.unwrap(6, 10 + foreign, 32), -3);
            C.due("unwrap by an own one", x.unwrap(6, 10 + own, 32), 0);
            C.due("zeroise the other's", x.zeroise(foreign), -3);
            C.due("zeroise an own one", x.zeroise(own), 0);
            C.due("an empty one has no role", x.zeroise(own), -4);
        }
    }

    private static void emptySlots() {
        Counted x = withKeys();
        for (int service = 1; service <= 10; service++) {
            if (needsKey(service)) {
                C.due("service " + service, x.run(service, EMPTY, 0, 48, 0), -4);
            }
        }
        C.due("derive", x.derive(EMPTY, 14, 2, 0, 16, 0), -4);
        C.due("derive from and to the same", x.derive(EMPTY, EMPTY, 2, 0, 16, 0), -4);
        C.due("wrap of", x.wrap(EMPTY, 0), -4);
        C.due("wrap by", x.wrap(1, EMPTY), -4);
        C.due("wrap of and by", x.wrap(EMPTY, 14), -4);
        C.due("unwrap by", x.unwrap(EMPTY, 14, 32), -4);
        C.due("unwrap by and to the same", x.unwrap(EMPTY, EMPTY, 32), -4);
        C.due("zeroise", x.zeroise(EMPTY), -4);
    }

    private static void fullSlots() {
        Counted x = withKeys();
        Check.feed(x, 0, 12);
        C.due("one that wraps right", x.wrap(1, 0), 32);
        for (int slot = 0; slot < 8; slot++) {
            C.due("load to " + slot, x.load(slot, 2, 0, 1, 0, 1), -4);
            C.due("make to " + slot, x.make(slot, 2, 0, 1, 0, 1), -4);
            C.due("derive to " + slot, x.derive(slot, 1, 2, 0, 1, 0), -4);
            C.due("unwrap to " + slot, x.unwrap(slot, 0, 32), -4);
        }
        C.due("unwrap to an empty one", x.unwrap(EMPTY, 0, 32), 0);
        C.due("which is full then", x.unwrap(EMPTY, 0, 32), -4);
    }

    private static void kindsOfKeys() {
        for (int service = 1; service <= 10; service++) {
            if (needsKey(service)) {
                Counted x = Check.officer();
                x.load(0, 3 - kindOf(service), 63, 1, -1, 16);
                x.load(1, 3 - kindOf(service), 63, 1, -1, 32);
                C.due("service " + service, x.run(service, 0, 0, 48, 0), -5);
                C.due("service " + service, x.run(service, 1, 0, 48, 0), -5);
            }
        }
        Counted x = withKeys();
        C.due("derive from AES", x.derive(EMPTY, 0, 2, 63, 16, 0), -5);
        C.due("wrap by MAC", x.wrap(0, 1), -5);
        C.due("unwrap by MAC", x.unwrap(EMPTY, 1, 32), -5);
        for (int n = 1; n <= 64; n++) {
            Counted y = Check.officer();
            y.load(0, 1, 16, 1, -1, 16);
            y.load(1, 2, 32, 1, -1, n);
            C.due("wrap of " + n + " bytes", y.wrap(1, 0), n % 8 == 0 ? n + 16 : -5);
        }
    }

    private static void lengthsOfNewKeys() {
        for (int n = 1; n <= 64; n++) {
            Counted x = withKeys();
            Check.feed(x, 0, 12);
            int answer = n == 16 || n == 32 ? 0 : -5;
            C.due("load AES of " + n, x.load(12, 1, 63, 1, -1, n), answer);
            C.due("make AES of " + n, x.make(13, 1, 63, 1, -1, n), answer);
            C.due("derive AES of " + n, x.derive(14, 1, 1, 63, n, 0), answer);
        }
    }

    private static void usageBits() {
        for (int service = 1; service <= 10; service++) {
            if (needsKey(service)) {
                Counted x = Check.officer();
                x.load(0, kindOf(service), 63 - bitOf(service), 1, -1, 16);
                x.load(1, kindOf(service), bitOf(service), 1, -1, 16);
                C.due("service " + service + " without the bit", x.run(service, 0, 0, 48, 0), -6);
                int answer = x.run(service, 1, 0, 48, 0);
                C.due("service " + service + " with it alone", answer > 0 || answer == -9, true);
            }
        }
        Counted x = Check.officer();
        int[][] keys = {{2, 55}, {2, 8}, {1, 47}, {1, 16}, {1, 31}, {1, 32}};
        for (int slot = 0; slot < keys.length; slot++) {
            x.load(slot, keys[slot][0], keys[slot][1], 1, -1, 16);
        }
        C.due("derive without the bit", x.derive(EMPTY, 0, 2, 63, 16, 0), -6);
        C.due("derive with it alone", x.derive(EMPTY, 1, 2, 63, 16, 0), 0);
        C.due("wrap by one without the bit", x.wrap(5, 2), -6);
        C.due("wrap of one without export", x.wrap(4, 3), -6);
        C.due("wrap with these alone", x.wrap(5, 3), 32);
        C.due("unwrap without the bit", x.unwrap(14, 2, 32), -6);
        C.due("unwrap with it alone", x.unwrap(14, 3, 32), 0);
    }

    private static void noUsesLeft() {
        for (int service = 1; service <= 10; service++) {
            if (needsKey(service)) {
                Counted x = Check.officer();
                x.load(0, kindOf(service), 63, 1, 1, 16);
                int answer = x.run(service, 0, 0, 48, 0);
                C.due("service " + service, answer > 0 || answer == -9, true);
                C.due("service " + service + " once more", x.run(service, 0, 0, 48, 0), -7);
                C.due("uses", x.slotInfo(0, 4), 0);
            }
        }
        Counted x = withKeys();
        C.due("derive", x.derive(EMPTY, 7, 2, 63, 16, 0), -7);
        C.due("wrap of", x.wrap(7, 0), -7);
        C.due("wrap by", x.wrap(1, 6), -7);
        C.due("unwrap", x.unwrap(EMPTY, 6, 32), -7);
        C.due("zeroising is no use", x.zeroise(7), 0);
    }

    private static void checksFail() {
        Counted x = withKeys();
        C.due("GCM open of other bytes", x.run(7, 0, 0, 48, 0), -9);
        C.due("unwrap of other bytes", x.unwrap(EMPTY, 0, 32), -9);
        C.due("the slot stays empty", x.slotInfo(EMPTY, 0), -1);
        C.due("both are refused", x.counter(1), 2);
    }

    private static void pins() {
        Counted x = Check.ready();
        C.due("a wrong pin", x.login(1, 1112), -10);
        x.login(1, 1112);
        x.login(1, 1112);
        C.due("locked, a right pin", x.login(1, 1111), -10);
        C.due("locked, a wrong pin", x.login(1, 1112), -10);
    }

    private static void eachUseIsTaken() {
        for (int service = 1; service <= 10; service++) {
            if (needsKey(service)) {
                Counted x = Check.officer();
                x.load(0, kindOf(service), 63, 1, 5, 16);
                x.load(1, kindOf(service), 63, 1, 5, 16);
                x.run(service, 0, 0, 48, 0);
                C.due("uses behind service " + service, x.slotInfo(0, 4), 4);
                C.due("uses of another", x.slotInfo(1, 4), 5);
            }
        }
        Counted x = Check.officer();
        x.load(0, 1, 63, 1, 5, 16);
        x.run(1, 0, 0, 0, 0);
        C.due("no bytes take one too", x.slotInfo(0, 4), 4);
        x.load(1, 2, 63, 1, 5, 16);
        x.derive(2, 1, 2, 63, 16, 0);
        C.due("uses behind derive", x.slotInfo(1, 4), 4);
        C.due("wrap", x.wrap(1, 0), 32);
        C.due("uses of what is wrapped", x.slotInfo(1, 4), 3);
        C.due("uses of what wraps", x.slotInfo(0, 4), 3);
        C.due("unwrap", x.unwrap(3, 0, 32), 0);
        C.due("uses behind unwrap", x.slotInfo(0, 4), 2);
        x.same(0, 16);
        x.hash(0, 0, 0);
        x.run(9, 0, 0, 0, 0);
        C.due("what uses no key takes none", x.slotInfo(0, 4), 2);
    }

    private static void failedCheckTakesUse() {
        Counted x = Check.officer();
        x.load(0, 1, 18, 1, 3, 16);
        C.due("GCM open", x.run(7, 0, 0, 28, 0), -9);
        C.due("two left", x.slotInfo(0, 4), 2);
        C.due("unwrap", x.unwrap(1, 0, 24), -9);
        C.due("one left", x.slotInfo(0, 4), 1);
        C.due("GCM open", x.run(7, 0, 0, 28, 0), -9);
        C.due("none left", x.slotInfo(0, 4), 0);
        C.due("GCM open", x.run(7, 0, 0, 28, 0), -7);
        C.due("unwrap", x.unwrap(1, 0, 24), -7);
        C.due("never less than none", x.slotInfo(0, 4), 0);
    }
}
