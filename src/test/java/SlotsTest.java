/** Promises 12, 13, 15, 16, 17 and 23: slotInfo, zeroise, load, make, derive, same. */
public final class SlotsTest {
    private static final Check C = new Check();

    public static void main(String[] args) {
        slotInfo();
        zeroise();
        load();
        newKeyNumbers();
        newKeyRefusals();
        make();
        derive();
        deriveNumbers();
        deriveRefusals();
        deriveOfTheUser();
        same();
        C.finish();
    }

    private static void slotInfo() {
        SealedModule x = Check.officer();
        x.load(15, 2, 37, 2, 1000000, 33);
        C.due("kind", x.slotInfo(15, 0), 2);
        C.due("bytes", x.slotInfo(15, 1), 33);
        C.due("usage", x.slotInfo(15, 2), 37);
        C.due("role", x.slotInfo(15, 3), 2);
        C.due("uses", x.slotInfo(15, 4), 1000000);
        for (int what = 0; what < 5; what++) {
            C.due("empty", x.slotInfo(14, what), -1);
        }
        C.illegalArgument("what 5", () -> x.slotInfo(15, 5));
        C.illegalArgument("what -1", () -> x.slotInfo(15, -1));
        C.illegalArgument("what 5 of an empty one", () -> x.slotInfo(0, 5));
        C.illegalArgument("slot 16", () -> x.slotInfo(16, 0));
        C.illegalArgument("slot -1", () -> x.slotInfo(-1, 0));
        x.power(false);
        C.due("off", x.slotInfo(15, 1), 33);
        C.due("not counted", x.counter(0), 2);
    }

    private static void zeroise() {
        SealedModule x = Check.officer();
        x.load(0, 2, 0, 1, 0, 5);
        x.load(1, 2, 0, 2, 0, 5);
        C.due("slot -1", x.zeroise(-1), -2);
        C.due("slot 16", x.zeroise(16), -2);
        C.due("the user's", x.zeroise(1), -3);
        C.due("empty", x.zeroise(2), -4);
        C.due("own", x.zeroise(0), 0);
        C.due("empty now", x.slotInfo(0, 0), -1);
        C.due("again", x.zeroise(0), -4);
        C.due("it can be filled again", x.load(0, 1, 1, 1, 1, 16), 0);
        Check.change(x, 2);
        C.due("the officer's", x.zeroise(0), -3);
        C.due("own", x.zeroise(1), 0);
        C.due("own again", x.zeroise(1), -4);
        x.logout();
        C.due("ready", x.zeroise(0), -1);
        C.due("ready, slot 16", x.zeroise(16), -1);
    }

    private static void load() {
        SealedModule x = Check.officer();
        byte[] bytes = Check.bytes(64, 3);
        Check.put(x, 0, bytes);
        for (int n = 1; n <= 64; n++) {
            C.due("MAC of " + n, x.load(n % 16, 2, 63, 1, -1, n), 0);
            C.due("its bytes", x.same(n % 16, n), true);
            C.due("AES of " + n, x.load((n + 1) % 16, 1, 63, 1, -1, n), n == 16 || n == 32 ? 0 : -5);
            x.zeroise(n % 16);
            x.zeroise((n + 1) % 16);
        }
        C.due("uses 0", x.load(0, 2, 4, 1, 0, 8), 0);
        C.due("none left", x.run(10, 0, 100, 0, 0), -7);
        C.due("uses 1", x.load(1, 2, 4, 1, 1, 8), 0);
        C.due("one", x.run(10, 1, 100, 0, 0), 32);
        C.due("no second", x.run(10, 1, 100, 0, 0), -7);
        C.due("the key stays when the buffer changes", x.same(1, 8), true);
        x.poke(0, 99, 1);
        C.due("the key is not the buffer", x.same(1, 8), false);
    }

    private static void newKeyNumbers() {
        SealedModule x = Check.officer();
        Check.feed(x, 0, 12);
        int[][] wrong = {
            {-1, 1, 1, 1, 1, 16}, {16, 1, 1, 1, 1, 16}, {0, 0, 1, 1, 1, 16}, {0, 3, 1, 1, 1, 16},
            {0, 1, -1, 1, 1, 16}, {0, 1, 64, 1, 1, 16}, {0, 1, 1, 0, 1, 16}, {0, 1, 1, 3, 1, 16},
            {0, 1, 1, 1, -2, 16}, {0, 1, 1, 1, 1000001, 16}, {0, 1, 1, 1, 1, 0}, {0, 1, 1, 1, 1, 65},
            {0, 2, 1, 1, 1, -1}, {0, 2, 1, 1, 1, 65}, {0, 2, 1, 1, 1, Integer.MIN_VALUE},
        };
        for (int[] a : wrong) {
            C.due("load", x.load(a[0], a[1], a[2], a[3], a[4], a[5]), -2);
            C.due("make", x.make(a[0], a[1], a[2], a[3], a[4], a[5]), -2);
        }
        C.due("usage 0", x.load(0, 2, 0, 2, 1000000, 64), 0);
    }

    private static void newKeyRefusals() {
        SealedModule x = Check.officer();
        x.load(0, 2, 0, 2, 1, 1);
        C.due("the user's slot is not empty", x.load(0, 2, 0, 1, 1, 1), -4);
        C.due("not empty before the length", x.load(0, 1, 0, 1, 1, 17), -4);
        C.due("make: not empty before entropy", x.make(0, 2, 0, 1, 1, 1), -4);
        C.due("make: length before entropy", x.make(1, 1, 0, 1, 1, 17), -5);
        C.due("make: no entropy", x.make(1, 1, 0, 1, 1, 16), -8);
        Check.change(x, 2);
        C.due("user", x.load(1, 2, 0, 2, 1, 1), -3);
        C.due("user, not empty", x.load(0, 2, 0, 2, 1, 1), -3);
        C.due("user, number", x.load(0, 2, 0, 2, 1, 0), -2);
        C.due("user, make", x.make(1, 2, 0, 2, 1, 1), -3);
        x.logout();
        C.due("ready", x.load(1, 2, 0, 2, 1, 0), -1);
        C.due("ready, make", x.make(1, 2, 0, 2, 1, 0), -1);
        C.due("nothing has changed", x.slotInfo(1, 0), -1);
    }

    private static void make() {
        SealedModule x = Check.officer();
        Check.feed(x, 0, 12);
        C.due("make", x.make(9, 2, 41, 2, 17, 20), 0);
        C.due("kind", x.slotInfo(9, 0), 2);
        C.due("bytes", x.slotInfo(9, 1), 20);
        C.due("usage", x.slotInfo(9, 2), 41);
        C.due("role", x.slotInfo(9, 3), 2);
        C.due("uses", x.slotInfo(9, 4), 17);
        Check.put(x, 0, new Reference.Drbg(Check.wordBytes(0, 12)).next(20, new byte[0]));
        C.due("key", x.same(9, 20), true);
        C.due("the buffer is not looked at", x.peek(24), 0);
    }

    private static void derive() {
        SealedModule x = Check.officer();
        byte[] key = Check.bytes(40, 4);
        Check.put(x, 0, key);
        x.load(0, 2, 8, 1, -1, 40);
        int[] lengths = {1, 31, 32, 33, 63, 64};
        for (int m = 0; m <= 64; m += 8) {
            byte[] label = Check.bytes(m, 50 + m);
            for (int n : lengths) {
                Check.put(x, 0, label);
                C.due("derive " + n + ", " + m, x.derive(1, 0, 2, 21, n, m), 0);
                Check.put(x, 0, Reference.derived(key, label, n));
                C.due("its key", x.same(1, n), true);
                x.zeroise(1);
            }
        }
        C.due("AES", x.derive(2, 0, 1, 7, 32, 0), 0);
        C.due("kind", x.slotInfo(2, 0), 1);
        C.due("usage", x.slotInfo(2, 2), 7);
        C.due("role", x.slotInfo(2, 3), 1);
        C.due("uses", x.slotInfo(2, 4), -1);
    }

    private static void deriveNumbers() {
        SealedModule x = Check.officer();
        x.load(0, 2, 8, 1, -1, 16);
        int[][] wrong = {
            {-1, 0, 2, 1, 8, 0}, {16, 0, 2, 1, 8, 0}, {1, -1, 2, 1, 8, 0}, {1, 16, 2, 1, 8, 0},
            {1, 0, 0, 1, 8, 0}, {1, 0, 3, 1, 8, 0}, {1, 0, 2, -1, 8, 0}, {1, 0, 2, 64, 8, 0},
            {1, 0, 2, 1, 0, 0}, {1, 0, 2, 1, 65, 0}, {1, 0, 2, 1, 8, -1}, {1, 0, 2, 1, 8, 65},
        };
        for (int[] a : wrong) {
            C.due("derive", x.derive(a[0], a[1], a[2], a[3], a[4], a[5]), -2);
        }
    }

    private static void deriveRefusals() {
        SealedModule x = Check.officer();
        x.load(0, 2, 8, 1, 2, 16);
        x.load(1, 2, 8, 2, 2, 16);
        x.load(2, 1, 63, 1, -1, 16);
        x.load(3, 2, 55, 1, 0, 16);
        C.due("the user's key", x.derive(0, 1, 2, 1, 8, 0), -3);
        C.due("from an empty one", x.derive(8, 9, 2, 1, 8, 0), -4);
        C.due("to one that is not", x.derive(2, 0, 2, 1, 8, 0), -4);
        C.due("to the user's", x.derive(1, 0, 2, 1, 8, 0), -4);
        C.due("to itself", x.derive(0, 0, 2, 1, 8, 0), -4);
        C.due("of AES", x.derive(8, 2, 2, 1, 8, 0), -5);
        C.due("length of AES", x.derive(8, 0, 1, 1, 24, 0), -5);
        C.due("length before usage", x.derive(8, 3, 1, 1, 24, 0), -5);
        C.due("usage before uses", x.derive(8, 3, 2, 1, 24, 0), -6);
        C.due("uses stay", x.slotInfo(0, 4), 2);
        C.due("first", x.derive(8, 0, 2, 1, 8, 0), 0);
        C.due("uses", x.slotInfo(0, 4), 1);
        C.due("second", x.derive(9, 0, 2, 1, 8, 0), 0);
        C.due("no third", x.derive(10, 0, 2, 1, 8, 0), -7);
        C.due("uses", x.slotInfo(0, 4), 0);
        x.logout();
        C.due("ready", x.derive(10, 0, 2, 1, 0, 0), -1);
    }

    private static void deriveOfTheUser() {
        SealedModule x = Check.officer();
        x.load(1, 2, 8, 2, 2, 16);
        Check.change(x, 2);
        C.due("user", x.derive(2, 1, 2, 63, 16, 3), 0);
        C.due("role as who asks", x.slotInfo(2, 3), 2);
        C.due("unlimited", x.slotInfo(2, 4), -1);
    }

    private static void same() {
        SealedModule x = Check.officer();
        Check.put(x, 0, Check.bytes(64, 8));
        x.load(7, 2, 0, 2, 0, 64);
        C.due("alike", x.same(7, 64), true);
        C.due("n 63", x.same(7, 63), false);
        C.due("n 65", x.same(7, 65), false);
        C.due("n -1", x.same(7, -1), false);
        C.due("n lowest", x.same(7, Integer.MIN_VALUE), false);
        C.due("empty", x.same(6, 0), false);
        C.due("empty", x.same(6, 64), false);
        for (int i = 0; i < 64; i++) {
            x.poke(i, Check.bytes(64, 8)[i] ^ 1, 1);
            C.due("byte " + i, x.same(7, 64), false);
            x.poke(i, Check.bytes(64, 8)[i], 1);
        }
        C.illegalArgument("slot 16", () -> x.same(16, 1));
        C.illegalArgument("slot -1", () -> x.same(-1, 1));
        x.logout();
        C.due("ready", x.same(7, 64), true);
        C.due("not counted", x.counter(0) + x.counter(1), 2);
    }
}
