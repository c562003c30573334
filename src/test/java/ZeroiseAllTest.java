/** What the terms tell of zeroiseAll(), and promise 14. */
public final class ZeroiseAllTest {
    private static final Check C = new Check();

    public static void main(String[] args) {
        C.holds("zeroiseAll() (in each state): all slots empty", ZeroiseAllTest::slotsEmptyInEachState);
        C.holds("pins as at first", ZeroiseAllTest::pinsAsAtFirst);
        C.holds("nobody locked", ZeroiseAllTest::nobodyLocked);
        C.holds("no tries", ZeroiseAllTest::noTries);
        C.holds("the generator .. forgotten", ZeroiseAllTest::generatorForgotten);
        C.holds("the words that were kept forgotten", ZeroiseAllTest::keptWordsForgotten);
        C.holds("health .. go on", ZeroiseAllTest::healthGoesOn);
        C.holds("the row of same words .. go on", ZeroiseAllTest::rowGoesOn);
        C.holds("the window go on", ZeroiseAllTest::windowGoesOn);
        C.holds("off, testing and error stay", ZeroiseAllTest::otherStatesStay);
        C.holds("officer and user become ready", ZeroiseAllTest::loginsEnd);
        C.holds("(and streams end)", ZeroiseAllTest::streamsEnd);
        C.holds("Promise 14: All slots become empty, and what else is told above.", ZeroiseAllTest::restStays);
        C.finish();
    }

    private static void slotsEmptyInEachState() {
        for (int state = 0; state <= 5; state++) {
            Counted x = Check.officer();
            for (int slot = 0; slot < 16; slot++) {
                x.load(slot, 2, 63, 1 + slot % 2, -1, 8);
            }
            Check.bring(x, state);
            x.zeroiseAll();
            for (int slot = 0; slot < 16; slot++) {
                C.due("slot " + slot + " in " + state, x.slotInfo(slot, 0), -1);
                C.due("its key", x.same(slot, 8), false);
            }
        }
    }

    private static void pinsAsAtFirst() {
        for (int state = 0; state <= 5; state++) {
            Counted x = Check.officer();
            x.setPin(1, 5);
            x.setPin(2, 6);
            if (state == 4) {
                x.logout();
                x.login(2, 6);
            } else if (state != 3) {
                Check.bring(x, state);
            }
            C.due("state", x.state(), state);
            x.zeroiseAll();
            Check.bring(x, 2);
            C.due("the officer's in " + state, x.login(1, 1111), 0);
            x.logout();
            C.due("the user's in " + state, x.login(2, 2222), 0);
        }
    }

    private static void nobodyLocked() {
        Counted x = Check.ready();
        for (int i = 0; i < 3; i++) {
            x.login(1, 1);
            x.login(2, 1);
        }
        x.zeroiseAll();
        C.due("officer", x.login(1, 1111), 0);
        x.logout();
        C.due("user", x.login(2, 2222), 0);
    }

    private static void noTries() {
        for (int role = 1; role <= 2; role++) {
            Counted x = Check.ready();
            x.login(role, 1);
            x.login(role, 1);
            x.zeroiseAll();
            x.login(role, 1);
            x.login(role, 1);
            C.due("two tries behind it", x.login(role, 1111 * role), 0);
            x.zeroiseAll();
            for (int i = 0; i < 3; i++) {
                x.login(role, 1);
            }
            C.due("three lock again", x.login(role, 1111 * role), -10);
        }
    }

    private static void generatorForgotten() {
        Counted x = Check.officer();
        Check.feed(x, 0, 12);
        C.due("made", x.run(11, 0, 0, 8, 0), 8);
        x.zeroiseAll();
        x.login(1, 1111);
        Check.feed(x, 20, 11);
        C.due("eleven words do not make it", x.run(11, 0, 0, 8, 0), -8);
        Check.feed(x, 31, 1);
        C.due("twelve do", x.run(11, 0, 0, 32, 0), 32);
        C.dueBytes("of the new words", Check.get(x, 0, 32),
                new Reference.Drbg(Check.wordBytes(20, 12)).next(32, new byte[0]));
        for (int i = 1; i < 64; i++) {
            C.due("its requests are counted anew", x.run(11, 0, 0, 0, 0), 0);
        }
    }

    private static void keptWordsForgotten() {
        int[] counts = {1, 11, 12, 64};
        for (int count : counts) {
            Counted x = Check.officer();
            Check.feed(x, 0, count);
            x.zeroiseAll();
            x.login(2, 2222);
            Check.feed(x, 100, 11);
            C.due("eleven new words behind " + count, x.run(11, 0, 0, 8, 0), -8);
            Check.feed(x, 111, 1);
            C.due("twelve", x.run(11, 0, 0, 32, 0), 32);
            C.dueBytes("of new words alone", Check.get(x, 0, 32),
                    new Reference.Drbg(Check.wordBytes(100, 12)).next(32, new byte[0]));
        }
    }

    private static void healthGoesOn() {
        for (int state = 1; state <= 5; state++) {
            Counted x = Check.inState(state);
            for (int i = 0; i < 4; i++) {
                x.entropy(7);
            }
            x.zeroiseAll();
            C.due("not healthy in " + state, x.entropy(8), 0);
            Counted y = Check.inState(state);
            y.entropy(7);
            y.zeroiseAll();
            C.due("healthy in " + state, y.entropy(8), 1);
        }
    }

    private static void rowGoesOn() {
        for (int before = 1; before <= 3; before++) {
            Counted x = Check.ready();
            for (int i = 0; i < 4; i++) {
                if (i == before) {
                    x.zeroiseAll();
                }
                C.due("word " + i + ", zeroised behind " + before, x.entropy(4), i < 3 ? 1 : 0);
            }
        }
    }

    private static void windowGoesOn() {
        for (int before = 1; before <= 15; before++) {
            Counted x = Check.ready();
            for (int i = 0; i < 16; i++) {
                if (i == before) {
                    x.zeroiseAll();
                }
                C.due("word " + i + ", zeroised behind " + before, x.entropy(i % 3 == 0 ? 3 : 100 + i), i < 15 ? 1 : 0);
            }
        }
    }

    private static void otherStatesStay() {
        int[] others = {0, 1, 2, 5};
        for (int state : others) {
            Counted x = Check.inState(state);
            x.zeroiseAll();
            C.due("state", x.state(), state);
        }
        Counted x = Check.testing();
        x.selfTestStep(4);
        x.zeroiseAll();
        C.due("tests stay done", x.selfTestStep(0), 6);
        Counted y = Check.inError();
        y.zeroiseAll();
        C.due("error answers as before", y.selfTestStep(10), -1);
        y.power(true);
        C.due("only switching leaves it", y.selfTestStep(10), 0);
    }

    private static void loginsEnd() {
        for (int role = 1; role <= 2; role++) {
            Counted x = Check.inState(2 + role);
            x.zeroiseAll();
            C.due("state", x.state(), 2);
            C.illegalState("nobody is logged in", x::logout);
            C.due("refused", x.hash(0, 0, 0), -1);
        }
    }

    private static void streamsEnd() {
        for (int role = 1; role <= 2; role++) {
            Counted x = Check.inState(2 + role);
            x.hash(0, 0, 0);
            x.zeroiseAll();
            x.login(role, 1111 * role);
            C.due("take", x.hash(1, 0, 0), -4);
            C.due("digest", x.hash(2, 0, 0), -4);
        }
    }

    private static void restStays() {
        Counted x = Check.inError();
        x.login(1, 1);
        Check.bring(x, 3);
        byte[] bytes = Check.bytes(512, 2);
        Check.put(x, 0, bytes);
        x.zeroiseAll();
        C.due("accepted", x.counter(0), 1);
        C.due("refused", x.counter(1), 1);
        C.due("failed", x.counter(2), 1);
        x.login(1, 1111);
        C.dueBytes("the buffer", Check.get(x, 0, 512), bytes);
    }
}
