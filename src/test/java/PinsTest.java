/** Promises 7 to 9: login, logout, setPin. */
public final class PinsTest {
    private static final Check C = new Check();

    public static void main(String[] args) {
        loginStates();
        loginNumbers();
        locks();
        rightPinForgetsTries();
        logout();
        setPin();
        setPinRefusals();
        setPinUnlocks();
        C.finish();
    }

    private static void loginStates() {
        SealedModule x = new SealedModule();
        C.due("off", x.login(1, 1111), -1);
        x.power(true);
        C.due("testing", x.login(1, 1111), -1);
        C.due("testing, no such role", x.login(9, 1111), -1);
        x.selfTestStep(10);
        C.due("officer", x.login(1, 1111), 0);
        C.due("state", x.state(), 3);
        C.due("again", x.login(2, 2222), -1);
        x.logout();
        C.due("user", x.login(2, 2222), 0);
        C.due("state", x.state(), 4);
        C.due("error", Check.inError().login(1, 1111), -1);
    }

    private static void loginNumbers() {
        SealedModule x = Check.ready();
        C.due("role 0", x.login(0, 1111), -2);
        C.due("role 3", x.login(3, 1111), -2);
        C.due("role lowest", x.login(Integer.MIN_VALUE, 1111), -2);
        C.due("a pin that none can have", x.login(1, -5), -10);
        C.due("a pin that none can have", x.login(1, 1000000), -10);
        C.due("the other's pin is the third try", x.login(1, 2222), -10);
        C.due("locked", x.login(1, 1111), -10);
        C.due("state", x.state(), 2);
        C.due("refused", x.counter(1), 7);
    }

    private static void locks() {
        SealedModule x = Check.ready();
        for (int i = 0; i < 3; i++) {
            C.due("try " + i, x.login(2, 1), -10);
        }
        C.due("locked", x.login(2, 2222), -10);
        C.due("still locked", x.login(2, 2222), -10);
        C.due("the other is not", x.login(1, 1111), 0);
    }

    private static void rightPinForgetsTries() {
        SealedModule x = Check.ready();
        for (int round = 0; round < 3; round++) {
            x.login(1, 1);
            x.login(1, 2);
            C.due("two tries before", x.login(1, 1111), 0);
            x.logout();
        }
    }

    private static void logout() {
        C.illegalState("off", () -> new SealedModule().logout());
        C.illegalState("ready", () -> Check.ready().logout());
        C.illegalState("error", () -> Check.inError().logout());
        SealedModule x = Check.user();
        x.hash(0, 0, 0);
        x.logout();
        C.due("ready again", x.state(), 2);
        C.illegalState("twice", x::logout);
        x.login(2, 2222);
        C.due("the stream has ended", x.hash(2, 0, 0), -4);
    }

    private static void setPin() {
        SealedModule x = Check.officer();
        C.due("officer's", x.setPin(1, 0), 0);
        C.due("user's", x.setPin(2, 999999), 0);
        x.logout();
        C.due("old pin", x.login(1, 1111), -10);
        C.due("new pin", x.login(1, 0), 0);
        x.logout();
        C.due("new pin of user", x.login(2, 999999), 0);
    }

    private static void setPinRefusals() {
        C.due("ready", Check.ready().setPin(1, 1), -1);
        C.due("ready, wrong role", Check.ready().setPin(5, 1), -1);
        SealedModule user = Check.user();
        C.due("user", user.setPin(2, 1), -3);
        C.due("user, role 3", user.setPin(3, 1), -2);
        C.due("user, pin -1", user.setPin(2, -1), -2);
        SealedModule x = Check.officer();
        C.due("role 0", x.setPin(0, 1), -2);
        C.due("role 3", x.setPin(3, 1), -2);
        C.due("pin -1", x.setPin(2, -1), -2);
        C.due("pin 1000000", x.setPin(2, 1000000), -2);
        x.logout();
        C.due("nothing has changed", x.login(2, 2222), 0);
    }

    private static void setPinUnlocks() {
        SealedModule x = Check.ready();
        for (int i = 0; i < 3; i++) {
            x.login(2, 1);
        }
        x.login(1, 1111);
        x.setPin(2, 2222);
        x.logout();
        C.due("unlocked", x.login(2, 5), -10);
        C.due("second try", x.login(2, 5), -10);
        C.due("its tries were gone", x.login(2, 2222), 0);
    }
}
