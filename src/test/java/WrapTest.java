/** Promises 18 and 19: wrap and unwrap. */
public final class WrapTest {
    private static final Check C = new Check();
    private static final byte[] OUTER = Check.bytes(32, 90);

    public static void main(String[] args) {
        eachLength();
        wrapRefusals();
        usesOfBoth();
        unwrapRefusals();
        unwrapUses();
        notWhatWrapMakes();
        eachBitCounts();
        roleOfWhoAsks();
        C.finish();
    }

    private static SealedModule withOuter(int bytes) {
        SealedModule x = Check.officer();
        Check.put(x, 0, OUTER);
        x.load(0, 1, 16, 1, -1, bytes);
        return x;
    }

    private static byte[] outer(int bytes) {
        return java.util.Arrays.copyOf(OUTER, bytes);
    }

    private static byte[] head(int kind, int usage, int role) {
        return new byte[] {(byte) kind, (byte) usage, (byte) role, 0, 0, 0, 0, 0};
    }

    private static void eachLength() {
        for (int bytes = 16; bytes <= 32; bytes += 16) {
            SealedModule x = withOuter(bytes);
            for (int n = 8; n <= 64; n += 8) {
                byte[] key = Check.bytes(n, n);
                int kind = n == 16 || n == 32 ? 1 : 2;
                Check.put(x, 0, key);
                x.load(1, kind, 32 + n % 32, 1, 5, n);
                x.poke(n + 16, 0x77, 1);
                C.due("wrap of " + n, x.wrap(1, 0), n + 16);
                byte[] want = Reference.wrap(outer(bytes), Check.join(head(kind, 32 + n % 32, 1), key));
                C.dueBytes("wrapped", Check.get(x, 0, n + 17), Check.join(want, new byte[] {0x77}));
                C.due("unwrap of " + n, x.unwrap(2, 0, n + 16), 0);
                C.dueBytes("the buffer stays", Check.get(x, 0, n + 16), want);
                C.due("kind", x.slotInfo(2, 0), kind);
                C.due("bytes", x.slotInfo(2, 1), n);
                C.due("usage", x.slotInfo(2, 2), 32 + n % 32);
                C.due("role", x.slotInfo(2, 3), 1);
                C.due("uses", x.slotInfo(2, 4), -1);
                Check.put(x, 0, key);
                C.due("key", x.same(2, n), true);
                x.zeroise(1);
                x.zeroise(2);
            }
        }
    }

    private static void wrapRefusals() {
        SealedModule x = withOuter(16);
        x.load(1, 2, 32, 1, -1, 8);
        x.load(2, 2, 32, 2, -1, 8);
        x.load(3, 1, 16, 2, -1, 16);
        x.load(4, 2, 48, 1, -1, 9);
        x.load(5, 2, 31, 1, -1, 8);
        x.load(6, 1, 47, 1, 0, 16);
        x.load(7, 2, 32, 1, 0, 8);
        x.load(8, 1, 16, 1, 0, 16);
        C.due("slot -1", x.wrap(-1, 0), -2);
        C.due("slot 16", x.wrap(16, 0), -2);
        C.due("by -1", x.wrap(1, -1), -2);
        C.due("by 16", x.wrap(1, 16), -2);
        C.due("the same", x.wrap(0, 0), -2);
        C.due("the same, empty", x.wrap(9, 9), -2);
        C.due("the user's key", x.wrap(2, 0), -3);
        C.due("by the user's", x.wrap(1, 3), -3);
        C.due("empty by the user's", x.wrap(9, 3), -3);
        C.due("the user's by empty", x.wrap(2, 9), -3);
        C.due("empty", x.wrap(9, 0), -4);
        C.due("by empty", x.wrap(1, 9), -4);
        C.due("by MAC", x.wrap(1, 4), -5);
        C.due("nine bytes", x.wrap(4, 0), -5);
        C.due("no export", x.wrap(5, 0), -6);
        C.due("no wrap, before uses", x.wrap(1, 6), -6);
        C.due("no uses", x.wrap(7, 0), -7);
        C.due("no uses by", x.wrap(1, 8), -7);
        C.dueBytes("the buffer stays", Check.get(x, 0, 32), OUTER);
        x.logout();
        C.due("ready", x.wrap(16, 0), -1);
    }

    private static void usesOfBoth() {
        SealedModule x = Check.officer();
        x.load(0, 1, 16, 1, 2, 16);
        x.load(1, 1, 32, 1, 5, 16);
        C.due("first", x.wrap(1, 0), 32);
        C.due("uses by", x.slotInfo(0, 4), 1);
        C.due("uses of", x.slotInfo(1, 4), 4);
        C.due("second", x.wrap(1, 0), 32);
        C.due("no third", x.wrap(1, 0), -7);
        C.due("uses of", x.slotInfo(1, 4), 3);
    }

    private static void unwrapRefusals() {
        SealedModule x = withOuter(16);
        x.load(1, 1, 47, 1, 0, 16);
        x.load(2, 2, 16, 1, -1, 8);
        x.load(3, 1, 16, 2, -1, 16);
        x.load(4, 1, 16, 1, 0, 16);
        int[] lengths = {-8, 0, 8, 16, 23, 25, 28, 79, 81, 88, Integer.MIN_VALUE, Integer.MAX_VALUE};
        for (int n : lengths) {
            C.due("n " + n, x.unwrap(9, 0, n), -2);
        }
        C.due("slot -1", x.unwrap(-1, 0, 32), -2);
        C.due("slot 16", x.unwrap(16, 0, 32), -2);
        C.due("by -1", x.unwrap(9, -1, 32), -2);
        C.due("by 16", x.unwrap(9, 16, 32), -2);
        C.due("by the user's", x.unwrap(9, 3, 32), -3);
        C.due("by the user's to a full one", x.unwrap(0, 3, 32), -3);
        C.due("to a full one", x.unwrap(1, 0, 32), -4);
        C.due("to the user's", x.unwrap(3, 0, 32), -4);
        C.due("to itself", x.unwrap(0, 0, 32), -4);
        C.due("by an empty one", x.unwrap(9, 10, 32), -4);
        C.due("by MAC", x.unwrap(9, 2, 32), -5);
        C.due("no wrap, before uses", x.unwrap(9, 1, 32), -6);
        C.due("no uses", x.unwrap(9, 4, 32), -7);
        C.due("not wrapped", x.unwrap(9, 0, 32), -9);
        x.logout();
        C.due("ready", x.unwrap(9, 0, 31), -1);
    }

    private static void unwrapUses() {
        SealedModule x = Check.officer();
        Check.put(x, 0, OUTER);
        x.load(0, 1, 16, 1, 3, 16);
        C.due("not wrapped", x.unwrap(9, 0, 24), -9);
        C.due("a use is taken", x.slotInfo(0, 4), 2);
        C.due("slot stays empty", x.slotInfo(9, 0), -1);
        Check.put(x, 0, Reference.wrap(outer(16), Check.join(head(2, 32, 2), new byte[8])));
        C.due("unwrap", x.unwrap(9, 0, 24), 0);
        C.due("a use is taken", x.slotInfo(0, 4), 1);
        C.due("a full one takes none", x.unwrap(9, 0, 24), -4);
        C.due("uses", x.slotInfo(0, 4), 1);
    }

    private static void notWhatWrapMakes() {
        SealedModule x = withOuter(32);
        tryHead(x, head(0, 32, 1), 16, -9);
        tryHead(x, head(3, 32, 1), 16, -9);
        tryHead(x, head(-1, 32, 1), 16, -9);
        tryHead(x, head(1, 31, 1), 16, -9);
        tryHead(x, head(1, 0, 1), 16, -9);
        tryHead(x, head(1, 64, 1), 16, -9);
        tryHead(x, head(1, 96, 1), 16, -9);
        tryHead(x, head(1, -1, 1), 16, -9);
        tryHead(x, head(1, 63, 0), 16, -9);
        tryHead(x, head(1, 63, 3), 16, -9);
        tryHead(x, head(1, 63, 1), 8, -9);
        tryHead(x, head(1, 63, 1), 24, -9);
        tryHead(x, head(1, 63, 1), 40, -9);
        tryHead(x, head(1, 63, 1), 64, -9);
        for (int i = 3; i < 8; i++) {
            byte[] head = head(1, 63, 1);
            head[i] = (byte) 0x80;
            tryHead(x, head, 16, -9);
        }
        tryHead(x, head(1, 63, 2), 16, 0);
        tryHead(x, head(1, 32, 1), 32, 0);
        for (int n = 8; n <= 64; n += 8) {
            tryHead(x, head(2, 33, 2), n, 0);
        }
    }

    private static void tryHead(SealedModule x, byte[] head, int n, int want) {
        Check.put(x, 0, Reference.wrap(OUTER, Check.join(head, Check.bytes(n, 6))));
        C.due("head " + Check.hex(head) + " of " + n, x.unwrap(1, 0, n + 16), want);
        x.zeroise(1);
    }

    private static void eachBitCounts() {
        SealedModule x = withOuter(16);
        byte[] right = Reference.wrap(outer(16), Check.join(head(2, 32, 1), Check.bytes(8, 2)));
        for (int i = 0; i < 24; i++) {
            byte[] wrong = right.clone();
            wrong[i] ^= 1 << i % 8;
            Check.put(x, 0, wrong);
            C.due("byte " + i, x.unwrap(1, 0, 24), -9);
        }
        Check.put(x, 0, right);
        C.due("right", x.unwrap(1, 0, 24), 0);
    }

    private static void roleOfWhoAsks() {
        SealedModule x = Check.officer();
        Check.put(x, 0, OUTER);
        x.load(0, 1, 16, 1, -1, 16);
        x.load(1, 1, 16, 2, -1, 16);
        x.load(2, 2, 63, 1, 4, 16);
        C.due("wrap", x.wrap(2, 0), 32);
        Check.change(x, 2);
        C.due("by the officer's", x.unwrap(3, 0, 32), -3);
        C.due("unwrap of the user", x.unwrap(3, 1, 32), 0);
        C.due("role as who asks", x.slotInfo(3, 3), 2);
        C.due("wrap of the user", x.wrap(3, 1), 32);
        byte[] want = Reference.wrap(outer(16), Check.join(head(2, 63, 2), outer(16)));
        C.dueBytes("its role is in it", Check.get(x, 0, 32), want);
    }
}
