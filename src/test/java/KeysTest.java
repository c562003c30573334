/** The term KEYS but for wrapping, and the promises 15 and 17: load, derive. */
public final class KeysTest {
    private static final Check C = new Check();

    public static void main(String[] args) {
        C.holds("load(): the key from the buffer's beginning.", KeysTest::keyFromBuffer);
        C.holds("Promise 15: Loads n bytes as a key: 0", KeysTest::load);
        C.holds("Promise 15: or a refusal.", KeysTest::loadRefusals);
        C.holds("derive(..): a key of n bytes by SP 800-108 in counter mode with HMAC-SHA-256", KeysTest::lengths);
        C.holds("i (4 bytes, 1, 2, ..), then m bytes (0 .. 64) of the buffer's beginning, each time", KeysTest::labels);
        C.holds("m bytes (0 .. 64): no others", KeysTest::wrongLabels);
        C.holds("of a MAC slot with bit derive", KeysTest::sources);
        C.holds("role and unlimited uses as who asks.", KeysTest::roleOfWhoAsks);
        C.holds("Promise 17: Derives a key: 0", KeysTest::derive);
        C.holds("Promise 17: or a refusal.", KeysTest::deriveRefusals);
        C.finish();
    }

    private static Counted withSource(int bytes) {
        Counted x = Check.officer();
        Check.put(x, 0, Check.bytes(bytes, bytes));
        x.load(0, 2, 8, 1, -1, bytes);
        return x;
    }

    private static void keyFromBuffer() {
        int[] sizes = {1, 15, 16, 32, 63, 64};
        for (int n : sizes) {
            Counted x = Check.officer();
            byte[] bytes = Check.bytes(512, n);
            Check.put(x, 0, bytes);
            C.due("load of " + n, x.load(0, 2, 4, 1, -1, n), 0);
            C.dueBytes("the buffer stays", Check.get(x, 0, 512), bytes);
            C.due("its bytes", x.same(0, n), true);
            Check.put(x, 0, Check.bytes(64, 99));
            C.due("the key is not the buffer", x.same(0, n), false);
            x.run(10, 0, 0, 0, 0);
            byte[] want = Reference.hmac(java.util.Arrays.copyOf(bytes, n));
            C.dueBytes("the key is used", Check.get(x, 0, 32), want);
        }
    }

    private static void load() {
        int[][] rows = {
            {0, 1, 0, 1, -1, 16}, {15, 1, 63, 2, 0, 32}, {7, 2, 32, 1, 1000000, 1}, {8, 2, 1, 2, 1, 64},
        };
        Counted x = Check.officer();
        for (int[] r : rows) {
            C.due("load", x.load(r[0], r[1], r[2], r[3], r[4], r[5]), 0);
            int[] want = {r[1], r[5], r[2], r[3], r[4]};
            for (int what = 0; what < 5; what++) {
                C.due("slot info " + what, x.slotInfo(r[0], what), want[what]);
            }
        }
        Counted y = Check.officer();
        Check.put(y, 0, Check.bytes(64, 1));
        y.load(0, 2, 4, 1, -1, 64);
        y.zeroise(0);
        y.load(0, 2, 4, 1, -1, 16);
        y.run(10, 0, 0, 0, 0);
        byte[] key = java.util.Arrays.copyOf(Check.bytes(64, 1), 16);
        C.dueBytes("nothing is left of a longer key", Check.get(y, 0, 32), Reference.hmac(key));
    }

    private static void loadRefusals() {
        Counted x = Check.officer();
        x.load(0, 2, 0, 2, 0, 1);
        C.due("state", Check.ready().load(1, 2, 0, 1, 0, 1), -1);
        int[][] wrong = {
            {-1, 2, 0, 1, 0, 1}, {16, 2, 0, 1, 0, 1}, {1, 0, 0, 1, 0, 1}, {1, 3, 0, 1, 0, 1}, {1, 2, -1, 1, 0, 1},
            {1, 2, 64, 1, 0, 1}, {1, 2, 0, 0, 0, 1}, {1, 2, 0, 3, 0, 1}, {1, 2, 0, 1, -2, 1}, {1, 2, 0, 1, 1000001, 1},
            {1, 2, 0, 1, 0, 0}, {1, 2, 0, 1, 0, 65},
        };
        for (int[] r : wrong) {
            C.due("number", x.load(r[0], r[1], r[2], r[3], r[4], r[5]), -2);
        }
        C.due("not empty", x.load(0, 2, 0, 1, 0, 1), -4);
        C.due("length", x.load(1, 1, 0, 1, 0, 33), -5);
        Check.change(x, 2);
        C.due("user", x.load(1, 2, 0, 2, 0, 1), -3);
        C.due("the slot stays empty", x.slotInfo(1, 0), -1);
    }

    private static void dueDerived(int bytes, int n, int m) {
        Counted x = withSource(bytes);
        byte[] label = Check.bytes(m, 50 + m);
        Check.put(x, 100, new byte[] {1});
        Check.put(x, 0, label);
        byte[] before = Check.get(x, 0, 512);
        C.due("derive " + n + ", " + m, x.derive(1, 0, 2, 21, n, m), 0);
        C.dueBytes("the buffer stays", Check.get(x, 0, 512), before);
        Check.put(x, 0, Reference.derived(Check.bytes(bytes, bytes), label, n));
        C.due("its key, of " + bytes + ", " + n + ", " + m, x.same(1, n), true);
    }

    private static void lengths() {
        for (int n = 1; n <= 64; n++) {
            dueDerived(40, n, 7);
        }
        dueDerived(1, 64, 7);
        dueDerived(64, 64, 7);
        int[] wrong = {0, -1, 65, Check.LOWEST, Check.HIGHEST};
        for (int n : wrong) {
            C.due("derive of " + n, withSource(16).derive(1, 0, 2, 21, n, 0), -2);
        }
    }

    private static void labels() {
        for (int m = 0; m <= 64; m++) {
            dueDerived(32, 33, m);
        }
    }

    private static void wrongLabels() {
        int[] wrong = {-1, 65, 512, 513, Check.LOWEST, Check.HIGHEST};
        for (int m : wrong) {
            Counted x = withSource(16);
            C.due("m " + m, x.derive(1, 0, 2, 21, 16, m), -2);
            C.due("the slot stays empty", x.slotInfo(1, 0), -1);
        }
    }

    private static void sources() {
        for (int bit = 1; bit <= 32; bit *= 2) {
            Counted x = Check.officer();
            x.load(0, 2, bit, 1, -1, 16);
            x.load(1, 1, bit, 1, -1, 16);
            C.due("MAC with bit " + bit, x.derive(2, 0, 2, 0, 16, 0), bit == 8 ? 0 : -6);
            C.due("AES with bit " + bit, x.derive(3, 1, 2, 0, 16, 0), -5);
        }
    }

    private static void roleOfWhoAsks() {
        for (int role = 1; role <= 2; role++) {
            Counted x = Check.officer();
            x.load(0, 2, 8, role, 2, 16);
            if (role == 2) {
                Check.change(x, 2);
            }
            C.due("derive", x.derive(1, 0, 2, 4, 16, 0), 0);
            C.due("role", x.slotInfo(1, 3), role);
            C.due("uses", x.slotInfo(1, 4), -1);
            C.due("uses of the source", x.slotInfo(0, 4), 1);
            C.due("who asks may use it", x.run(10, 1, 0, 0, 0), 32);
            Check.change(x, 3 - role);
            C.due("the other may not", x.run(10, 1, 0, 0, 0), -3);
        }
    }

    private static void derive() {
        for (int n = 16; n <= 32; n += 16) {
            Counted x = withSource(20);
            C.due("AES", x.derive(15, 0, 1, 63, n, 0), 0);
            int[] want = {1, n, 63, 1, -1};
            for (int what = 0; what < 5; what++) {
                C.due("slot info " + what, x.slotInfo(15, what), want[what]);
            }
            Check.put(x, 0, Reference.derived(Check.bytes(20, 20), new byte[0], n));
            C.due("its key", x.same(15, n), true);
        }
    }

    private static void deriveRefusals() {
        Counted x = withSource(16);
        x.load(1, 2, 8, 2, -1, 16);
        x.load(2, 1, 63, 1, -1, 16);
        x.load(3, 2, 55, 1, -1, 16);
        x.load(4, 2, 8, 1, 1, 16);
        C.due("state", Check.ready().derive(9, 0, 2, 0, 16, 0), -1);
        C.due("slot", x.derive(16, 0, 2, 0, 16, 0), -2);
        C.due("from", x.derive(9, 16, 2, 0, 16, 0), -2);
        C.due("the user's", x.derive(9, 1, 2, 0, 16, 0), -3);
        C.due("from an empty one", x.derive(9, 10, 2, 0, 16, 0), -4);
        C.due("to a full one", x.derive(2, 0, 2, 0, 16, 0), -4);
        C.due("to the user's", x.derive(1, 0, 2, 0, 16, 0), -4);
        C.due("to itself", x.derive(0, 0, 2, 0, 16, 0), -4);
        C.due("from AES", x.derive(9, 2, 2, 0, 16, 0), -5);
        C.due("length of AES", x.derive(9, 0, 1, 0, 24, 0), -5);
        C.due("without the bit", x.derive(9, 3, 2, 0, 16, 0), -6);
        C.due("the last use", x.derive(9, 4, 2, 0, 16, 0), 0);
        C.due("none left", x.derive(10, 4, 2, 0, 16, 0), -7);
        C.due("the slot stays empty", x.slotInfo(10, 0), -1);
    }
}
