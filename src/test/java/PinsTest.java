/** The term PINS, and the promises 7 to 9: login, logout, setPin. */
public final class PinsTest {
    private static final Check C = new Check();

    public static void main(String[] args) {
        C.holds("PINS: officer 1111, user 2222 at first.", PinsTest::firstPins);
        C.holds("A wrong pin is a TRY", PinsTest::wrongPinIsTry);
        C.holds("a right one makes the role's tries 0", PinsTest::rightPinForgetsTries);
        C.holds("with three tries a role is LOCKED", PinsTest::threeTriesLock);
        C.holds("no try more is counted then", PinsTest::noTryMore);
        C.holds("nor is a right pin taken", PinsTest::rightPinIsNotTaken);
        C.holds("Promise 7: Logs in: 0", PinsTest::login);
        C.holds("-1 the state (login: not ready", PinsTest::loginInEachState);
        C.holds("Promise 7: -2 no such role", PinsTest::noSuchRole);
        C.holds("Promise 7: any other pin than the right one is a wrong one", PinsTest::anyOtherPin);
        C.holds("Promise 8: Ready again.", PinsTest::logout);
        C.holds("Promise 8: IllegalStateException: nobody is logged in.", PinsTest::logoutOfNobody);
        C.holds("Promise 9: Sets a role's pin (0 .. 999999)", PinsTest::setPinEdges);
        C.holds("Promise 9: its lock and tries go", PinsTest::setPinUnlocks);
        C.holds("Promise 9: or a refusal.", PinsTest::setPinRefusals);
        C.finish();
    }

    private static int rightPin(int role) {
        return 1111 * role;
    }

    private static void firstPins() {
        for (int role = 1; role <= 2; role++) {
            Counted x = Check.ready();
            C.due("one less", x.login(role, rightPin(role) - 1), -10);
            C.due("one more", x.login(role, rightPin(role) + 1), -10);
            C.due("the pin", x.login(role, rightPin(role)), 0);
            C.due("the other's", Check.ready().login(role, rightPin(3 - role)), -10);
        }
    }

    private static void wrongPinIsTry() {
        for (int role = 1; role <= 2; role++) {
            Counted x = Check.ready();
            x.login(3, 1);
            x.login(0, 1);
            x.login(role, 1);
            x.login(3 - role, 1);
            x.login(3 - role, rightPin(3 - role));
            C.due("one who is logged in", x.login(role, 1), -1);
            C.due("one who is logged in", x.login(role, 1), -1);
            x.logout();
            x.login(role, 1);
            C.due("two tries, the refusals of other kinds were none", x.login(role, rightPin(role)), 0);
        }
    }

    private static void rightPinForgetsTries() {
        for (int role = 1; role <= 2; role++) {
            Counted x = Check.ready();
            for (int round = 0; round < 4; round++) {
                x.login(role, 1);
                x.login(role, 2);
                C.due("behind two tries", x.login(role, rightPin(role)), 0);
                x.logout();
            }
            x.login(role, 1);
            x.login(role, 1);
            x.login(3 - role, rightPin(3 - role));
            x.logout();
            x.login(role, 1);
            C.due("the other's right pin keeps them", x.login(role, rightPin(role)), -10);
        }
    }

    private static void threeTriesLock() {
        for (int role = 1; role <= 2; role++) {
            Counted x = Check.ready();
            for (int i = 0; i < 3; i++) {
                C.due("try", x.login(role, 7), -10);
            }
            C.due("locked", x.login(role, rightPin(role)), -10);
            C.due("the state stays", x.state(), 2);
            C.due("the other is not locked", x.login(3 - role, rightPin(3 - role)), 0);
        }
    }

    private static void noTryMore() {
        Counted x = Check.ready();
        for (int i = 0; i < 40; i++) {
            C.due("a wrong pin", x.login(2, 7), -10);
            if (i >= 2) {
                C.due("locked behind " + (i + 1), x.login(2, 2222), -10);
            }
        }
        x.login(1, 1111);
        x.setPin(2, 2222);
        x.logout();
        x.login(2, 7);
        x.login(2, 7);
        C.due("none was left over", x.login(2, 2222), 0);
    }

    private static void rightPinIsNotTaken() {
        Counted x = Check.ready();
        for (int i = 0; i < 3; i++) {
            x.login(1, 7);
        }
        for (int i = 0; i < 5; i++) {
            C.due("a right pin", x.login(1, 1111), -10);
        }
        C.due("refused", x.counter(1), 8);
        C.due("state", x.state(), 2);
    }

    private static void login() {
        Counted x = Check.ready();
        C.due("officer", x.login(1, 1111), 0);
        C.due("state", x.state(), 3);
        x.logout();
        C.due("user", x.login(2, 2222), 0);
        C.due("state", x.state(), 4);
    }

    private static void loginInEachState() {
        int[] others = {0, 1, 3, 4, 5};
        for (int state : others) {
            Counted x = Check.inState(state);
            C.due("right pin in " + state, x.login(1, 1111), -1);
            C.due("wrong pin in " + state, x.login(2, 1), -1);
            C.due("no such role in " + state, x.login(3, 1), -1);
            C.due("the state stays", x.state(), state);
        }
    }

    private static void noSuchRole() {
        Counted x = Check.ready();
        int[] wrong = {0, 3, -1, Check.LOWEST, Check.HIGHEST};
        for (int role : wrong) {
            C.due("role " + role, x.login(role, 1111), -2);
        }
        C.due("state", x.state(), 2);
    }

    private static void anyOtherPin() {
        int[] wrong = {-1, 0, -1111, 1000000, 1111 + 65536, Check.LOWEST, Check.HIGHEST};
        for (int pin : wrong) {
            Counted x = Check.ready();
            for (int i = 0; i < 3; i++) {
                C.due("pin " + pin, x.login(1, pin), -10);
            }
            C.due("each was a try", x.login(1, 1111), -10);
        }
    }

    private static void logout() {
        for (int role = 1; role <= 2; role++) {
            Counted x = Check.inState(2 + role);
            int counted = x.counter(0) + x.counter(1);
            x.logout();
            C.due("ready", x.state(), 2);
            C.due("not counted", x.counter(0) + x.counter(1), counted);
            C.due("another may come", x.login(3 - role, rightPin(3 - role)), 0);
        }
    }

    private static void logoutOfNobody() {
        int[] others = {0, 1, 2, 5};
        for (int state : others) {
            Counted x = Check.inState(state);
            C.illegalState("logout in " + state, x::logout);
            C.due("the state stays", x.state(), state);
        }
        Counted x = Check.officer();
        x.logout();
        C.illegalState("logout twice", x::logout);
    }

    private static void setPinEdges() {
        int[] pins = {0, 1, 999998, 999999};
        for (int role = 1; role <= 2; role++) {
            for (int pin : pins) {
                Counted x = Check.officer();
                C.due("setPin to " + pin, x.setPin(role, pin), 0);
                C.due("who set it stays", x.state(), 3);
                x.logout();
                C.due("the old pin", x.login(role, rightPin(role)), -10);
                C.due("the new pin", x.login(role, pin), 0);
                x.logout();
                C.due("the other's stays", x.login(3 - role, rightPin(3 - role)), 0);
            }
            int[] wrong = {-1, 1000000, Check.LOWEST, Check.HIGHEST};
            for (int pin : wrong) {
                Counted x = Check.officer();
                C.due("setPin to " + pin, x.setPin(role, pin), -2);
                x.logout();
                C.due("the pin stays", x.login(role, rightPin(role)), 0);
            }
        }
    }

    private static void setPinUnlocks() {
        for (int tries = 1; tries <= 3; tries++) {
            Counted x = Check.ready();
            for (int i = 0; i < tries; i++) {
                x.login(2, 1);
            }
            x.login(1, 1111);
            x.setPin(2, 2222);
            x.logout();
            x.login(2, 5);
            x.login(2, 5);
            C.due("two tries behind setPin, " + tries + " before", x.login(2, 2222), 0);
            Check.change(x, 1);
            x.setPin(2, 2222);
            x.logout();
            for (int i = 0; i < 3; i++) {
                x.login(2, 5);
            }
            C.due("three lock again", x.login(2, 2222), -10);
        }
        Counted x = Check.ready();
        for (int i = 0; i < 3; i++) {
            x.login(2, 1);
        }
        x.login(1, 1111);
        x.setPin(1, 1111);
        x.setPin(2, 1000000);
        x.logout();
        C.due("the officer's pin, or a refusal, unlocks no user", x.login(2, 2222), -10);
    }

    private static void setPinRefusals() {
        int[] others = {0, 1, 2, 5};
        for (int state : others) {
            C.due("setPin in " + state, Check.inState(state).setPin(1, 1), -1);
        }
        int[] wrong = {0, 3, -1, Check.LOWEST, Check.HIGHEST};
        for (int role : wrong) {
            C.due("role " + role, Check.officer().setPin(role, 1), -2);
        }
        Counted x = Check.user();
        C.due("the user's own", x.setPin(2, 1), -3);
        C.due("the officer's", x.setPin(1, 1), -3);
        x.logout();
        C.due("the pin stays", x.login(2, 2222), 0);
        x.logout();
        C.due("the pin stays", x.login(1, 1111), 0);
    }
}
