import java.util.Arrays;

/** What KEYS tells of wrapping, and the promises 18 and 19: wrap, unwrap. */
public final class WrapTest {
    private static final Check C = new Check();
    private static final byte[] OUTER = Check.bytes(32, 90);

    public static void main(String[] args) {
        C.holds("wrap(slot, by), two different ones", WrapTest::twoDifferent);
        C.holds("RFC 3394 by an AES slot with bit wrap", WrapTest::outerKeys);
        C.holds("of a slot with bit export", WrapTest::exportBit);
        C.holds("whose key has a multiple of 8 bytes", WrapTest::multiplesOfEight);
        C.holds("of the bytes kind, usage, role, 0, 0, 0, 0, 0, and the key; to the buffer's beginning", WrapTest::wrapped);
        C.holds("both lose a use", WrapTest::bothLoseUse);
        C.holds("Promise 18: How many bytes the wrapped key has, or a refusal.", WrapTest::wrapAnswers);
        C.holds("unwrap(slot, by, n): of n bytes (a multiple of 8, 24 .. 80) of it", WrapTest::lengths);
        C.holds("to an empty slot", WrapTest::targets);
        C.holds("kind, usage as they were told", WrapTest::asTold);
        C.holds("role as who asks", WrapTest::roleOfWhoAsks);
        C.holds("uses without limit", WrapTest::usesWithoutLimit);
        C.holds("-9 when it is not what wrap can have made", WrapTest::eachByteCounts);
        C.holds("-9: kind", WrapTest::wrongKinds);
        C.holds("-9: usage with export", WrapTest::wrongUsages);
        C.holds("-9: role", WrapTest::wrongRoles);
        C.holds("-9: zeros", WrapTest::wrongZeros);
        C.holds("-9: a length of the kind, too", WrapTest::wrongLengths);
        C.holds("Promise 19: 0, or a refusal.", WrapTest::unwrapAnswers);
        C.finish();
    }

    private static Counted withOuter(int bytes) {
        Counted x = Check.officer();
        Check.put(x, 0, OUTER);
        x.load(0, 1, 16, 1, -1, bytes);
        return x;
    }

    private static byte[] outer(int bytes) {
        return Arrays.copyOf(OUTER, bytes);
    }

    private static byte[] head(int kind, int usage, int role) {
        return new byte[] {(byte) kind, (byte) usage, (byte) role, 0, 0, 0, 0, 0};
    }

    /** Unwraps n bytes of a key behind a head that wrap() may never have written. */
    private static void tryHead(byte[] head, int n, int want) {
        Counted x = withOuter(32);
        byte[] wrapped = Reference.wrap(OUTER, Check.join(head, Check.bytes(n, 6)));
        Check.put(x, 0, wrapped);
        String what = "head " + Check.hex(head) + " of " + n;
        C.due(what, x.unwrap(1, 0, n + 16), want);
        C.due(what + ": kind", x.slotInfo(1, 0), want == 0 ? head[0] : -1);
        C.dueBytes("the buffer stays", Check.get(x, 0, n + 16), wrapped);
        Check.put(x, 0, Check.bytes(n, 6));
        C.due(what + ": key", x.same(1, n), want == 0);
    }

    private static void twoDifferent() {
        Counted x = Check.officer();
        x.load(3, 1, 48, 1, -1, 16);
        x.load(4, 1, 48, 1, -1, 16);
        C.due("the same", x.wrap(3, 3), -2);
        C.due("the same, empty", x.wrap(5, 5), -2);
        C.due("each by the other", x.wrap(3, 4), 32);
        C.due("each by the other", x.wrap(4, 3), 32);
        for (int slot = 0; slot < 16; slot++) {
            C.due("slot " + slot + " by itself", x.wrap(slot, slot), -2);
        }
    }

    private static void outerKeys() {
        for (int bit = 1; bit <= 32; bit *= 2) {
            Counted x = Check.officer();
            x.load(0, 1, bit, 1, -1, 16);
            x.load(1, 1, bit, 1, -1, 32);
            x.load(2, 2, bit, 1, -1, 16);
            x.load(3, 2, 32, 1, -1, 8);
            C.due("AES of 16 with bit " + bit, x.wrap(3, 0), bit == 16 ? 24 : -6);
            C.due("AES of 32 with bit " + bit, x.wrap(3, 1), bit == 16 ? 24 : -6);
            C.due("MAC with bit " + bit, x.wrap(3, 2), -5);
        }
        Counted x = Check.officer();
        Check.put(x, 0, Check.unhex("000102030405060708090a0b0c0d0e0f"));
        x.load(0, 1, 16, 1, -1, 16);
        Check.put(x, 0, Check.unhex("1fa68b0a8112b447aef34bd8fb5a7b829d3e862371d2cfe5"));
        C.due("RFC 3394, 4.1 has a right check, but no head", x.unwrap(1, 0, 24), -9);
    }

    private static void exportBit() {
        for (int bit = 1; bit <= 32; bit *= 2) {
            Counted x = withOuter(16);
            x.load(1, 1, bit, 1, -1, 16);
            x.load(2, 2, bit, 1, -1, 16);
            C.due("AES with bit " + bit, x.wrap(1, 0), bit == 32 ? 32 : -6);
            C.due("MAC with bit " + bit, x.wrap(2, 0), bit == 32 ? 32 : -6);
        }
    }

    private static void multiplesOfEight() {
        for (int n = 1; n <= 64; n++) {
            Counted x = withOuter(32);
            x.load(1, 2, 32, 1, -1, n);
            C.due("wrap of " + n, x.wrap(1, 0), n % 8 == 0 ? n + 16 : -5);
        }
    }

    private static void wrapped() {
        for (int bytes = 16; bytes <= 32; bytes += 16) {
            for (int n = 8; n <= 64; n += 8) {
                Counted x = withOuter(bytes);
                byte[] key = Check.bytes(n, n);
                int kind = n == 16 || n == 32 ? 1 : 2;
                int usage = 32 + n / 8;
                Check.put(x, 0, key);
                x.load(1, kind, usage, 1, 5, n);
                byte[] before = Check.bytes(512, 8);
                Check.put(x, 0, before);
                C.due("wrap of " + n, x.wrap(1, 0), n + 16);
                byte[] want = Reference.wrap(outer(bytes), Check.join(head(kind, usage, 1), key));
                C.dueBuffer("wrapped", x, before, 0, want);
                C.due("the slot stays", x.slotInfo(1, 1), n);
            }
        }
    }

    private static void bothLoseUse() {
        Counted x = Check.officer();
        x.load(0, 1, 16, 1, 2, 16);
        x.load(1, 1, 32, 1, 3, 16);
        C.due("first", x.wrap(1, 0), 32);
        C.due("by", x.slotInfo(0, 4), 1);
        C.due("of", x.slotInfo(1, 4), 2);
        C.due("second", x.wrap(1, 0), 32);
        C.due("no third", x.wrap(1, 0), -7);
        C.due("by", x.slotInfo(0, 4), 0);
        C.due("a refusal takes none of the other", x.slotInfo(1, 4), 1);
        x.load(2, 1, 16, 1, -1, 16);
        C.due("by one without a limit", x.wrap(1, 2), 32);
        C.due("without a limit", x.slotInfo(2, 4), -1);
        C.due("of", x.slotInfo(1, 4), 0);
        C.due("none left", x.wrap(1, 2), -7);
    }

    private static void wrapAnswers() {
        Counted x = withOuter(16);
        x.load(1, 2, 32, 1, -1, 8);
        x.load(2, 2, 32, 1, -1, 64);
        x.load(3, 2, 32, 2, -1, 8);
        x.load(4, 1, 16, 2, -1, 16);
        C.due("the shortest", x.wrap(1, 0), 24);
        C.due("the longest", x.wrap(2, 0), 80);
        C.due("slot -1", x.wrap(-1, 0), -2);
        C.due("slot 16", x.wrap(16, 0), -2);
        C.due("by -1", x.wrap(1, -1), -2);
        C.due("by 16", x.wrap(1, 16), -2);
        C.due("the user's", x.wrap(3, 0), -3);
        C.due("by the user's", x.wrap(1, 4), -3);
        C.due("empty", x.wrap(9, 0), -4);
        C.due("by an empty one", x.wrap(1, 9), -4);
        x.logout();
        C.due("ready", x.wrap(1, 0), -1);
    }

    private static void lengths() {
        for (int n = 0; n <= 100; n++) {
            Counted x = withOuter(16);
            boolean right = n % 8 == 0 && n >= 24 && n <= 80;
            if (right) {
                Check.put(x, 0, Reference.wrap(outer(16), Check.join(head(2, 32, 1), Check.bytes(n - 16, 3))));
            }
            C.due("n " + n, x.unwrap(1, 0, n), right ? 0 : -2);
            C.due("its length", x.slotInfo(1, 1), right ? n - 16 : -1);
        }
        int[] wrong = {-8, -24, 512, Check.LOWEST, Check.HIGHEST, Check.HIGHEST - 7};
        for (int n : wrong) {
            C.due("n " + n, withOuter(16).unwrap(1, 0, n), -2);
        }
        Counted x = withOuter(16);
        Check.put(x, 0, Reference.wrap(outer(16), Check.join(head(2, 32, 1), Check.bytes(16, 3))));
        C.due("too few of them", x.unwrap(1, 0, 24), -9);
        C.due("too many of them", x.unwrap(1, 0, 40), -9);
        C.due("all of them", x.unwrap(1, 0, 32), 0);
    }

    private static void targets() {
        Counted x = withOuter(16);
        x.load(1, 2, 32, 1, -1, 8);
        x.load(2, 2, 32, 2, -1, 8);
        C.due("wrap", x.wrap(1, 0), 24);
        C.due("to a full one", x.unwrap(1, 0, 24), -4);
        C.due("to the user's", x.unwrap(2, 0, 24), -4);
        C.due("to itself", x.unwrap(0, 0, 24), -4);
        C.due("to slot 15", x.unwrap(15, 0, 24), 0);
        x.zeroise(1);
        C.due("to one that was emptied", x.unwrap(1, 0, 24), 0);
    }

    private static void asTold() {
        for (int usage = 32; usage <= 63; usage++) {
            Counted x = withOuter(32);
            int kind = 1 + usage % 2;
            x.load(1, kind, usage, 1, 7, 16);
            x.wrap(1, 0);
            C.due("unwrap", x.unwrap(2, 0, 32), 0);
            C.due("kind", x.slotInfo(2, 0), kind);
            C.due("usage", x.slotInfo(2, 2), usage);
        }
    }

    private static void roleOfWhoAsks() {
        Counted x = Check.officer();
        Check.put(x, 0, OUTER);
        x.load(0, 1, 16, 1, -1, 16);
        x.load(1, 1, 16, 2, -1, 16);
        x.load(2, 2, 63, 1, 4, 16);
        C.due("wrap", x.wrap(2, 0), 32);
        Check.change(x, 2);
        C.due("by the officer's", x.unwrap(3, 0, 32), -3);
        C.due("unwrap of the user", x.unwrap(3, 1, 32), 0);
        C.due("role", x.slotInfo(3, 3), 2);
        C.due("wrap of the user", x.wrap(3, 1), 32);
        byte[] want = Reference.wrap(outer(16), Check.join(head(2, 63, 2), outer(16)));
        C.dueBytes("the user's role is in it", Check.get(x, 0, 32), want);
        Check.change(x, 1);
        C.due("unwrap of the officer", x.unwrap(4, 0, 32), 0);
        C.due("role", x.slotInfo(4, 3), 1);
    }

    private static void usesWithoutLimit() {
        int[] uses = {1, 1000000, -1};
        for (int number : uses) {
            Counted x = Check.officer();
            x.load(0, 1, 16, 1, 9, 16);
            x.load(1, 2, 36, 1, number, 8);
            x.wrap(1, 0);
            x.unwrap(2, 0, 24);
            C.due("uses", x.slotInfo(2, 4), -1);
            x.run(10, 2, 0, 0, 0);
            C.due("uses behind a use", x.slotInfo(2, 4), -1);
        }
    }

    private static void eachByteCounts() {
        byte[] right = Reference.wrap(outer(16), Check.join(head(2, 32, 1), Check.bytes(8, 2)));
        Counted x = withOuter(16);
        for (int i = 0; i < 24; i++) {
            byte[] wrong = right.clone();
            wrong[i] ^= 1 << i % 8;
            Check.put(x, 0, wrong);
            C.due("byte " + i, x.unwrap(1, 0, 24), -9);
            C.due("the slot stays empty", x.slotInfo(1, 0), -1);
        }
        Check.put(x, 0, right);
        C.due("right", x.unwrap(1, 0, 24), 0);
        Check.put(x, 0, Reference.wrap(outer(32), Check.join(head(2, 32, 1), Check.bytes(8, 2))));
        C.due("by another key", x.unwrap(2, 0, 24), -9);
    }

    private static void wrongKinds() {
        for (int kind = -1; kind <= 4; kind++) {
            tryHead(head(kind, 63, 1), 16, kind == 1 || kind == 2 ? 0 : -9);
        }
        tryHead(head(127, 63, 1), 16, -9);
        tryHead(head(-128, 63, 1), 16, -9);
    }

    private static void wrongUsages() {
        for (int usage = 0; usage <= 255; usage++) {
            tryHead(head(1, usage, 1), 16, usage >= 32 && usage <= 63 ? 0 : -9);
        }
    }

    private static void wrongRoles() {
        for (int role = -1; role <= 4; role++) {
            tryHead(head(2, 63, role), 24, role == 1 || role == 2 ? 0 : -9);
        }
        tryHead(head(2, 63, 127), 24, -9);
        tryHead(head(2, 63, -128), 24, -9);
    }

    private static void wrongZeros() {
        for (int i = 3; i < 8; i++) {
            for (int bit = 0; bit < 8; bit++) {
                byte[] head = head(1, 63, 1);
                head[i] = (byte) (1 << bit);
                tryHead(head, 16, -9);
            }
        }
    }

    private static void wrongLengths() {
        for (int n = 8; n <= 64; n += 8) {
            tryHead(head(1, 63, 1), n, n == 16 || n == 32 ? 0 : -9);
            tryHead(head(2, 63, 1), n, 0);
        }
    }

    private static void unwrapAnswers() {
        Counted x = withOuter(16);
        x.load(1, 1, 47, 1, -1, 16);
        x.load(2, 2, 16, 1, -1, 8);
        x.load(3, 1, 16, 2, -1, 16);
        x.load(4, 1, 16, 1, 0, 16);
        int[] slots = {-1, 16, Check.LOWEST, Check.HIGHEST};
        for (int slot : slots) {
            C.due("slot " + slot, x.unwrap(slot, 0, 32), -2);
            C.due("by " + slot, x.unwrap(9, slot, 32), -2);
        }
        C.due("by the user's", x.unwrap(9, 3, 32), -3);
        C.due("by an empty one", x.unwrap(9, 10, 32), -4);
        C.due("by MAC", x.unwrap(9, 2, 32), -5);
        C.due("without the bit", x.unwrap(9, 1, 32), -6);
        C.due("without uses", x.unwrap(9, 4, 32), -7);
        C.due("not wrapped", x.unwrap(9, 0, 32), -9);
        x.logout();
        C.due("ready", x.unwrap(9, 0, 32), -1);
    }
}
