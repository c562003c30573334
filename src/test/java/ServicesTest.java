import java.util.Arrays;

/** Promise 20: the services of run, by the standards and against Java's own library. */
public final class ServicesTest {
    private static final Check C = new Check();

    public static void main(String[] args) {
        for (int bytes = 16; bytes <= 32; bytes += 16) {
            ecb(bytes);
            cbc(bytes);
            ctr(bytes);
            gcm(bytes);
            cmac(bytes);
        }
        knownAnswers();
        counterCarries();
        gcmWrongBits();
        sha();
        hmac();
        lengths();
        extraIsZeroForOthers();
        statesAndNumbers();
        kindsAndBits();
        refusalsInOrder();
        uses();
        C.finish();
    }

    private static SealedModule withKey(int bytes) {
        SealedModule x = Check.officer();
        Check.put(x, 0, key(bytes));
        x.load(0, 1, 7, 1, -1, bytes);
        Check.put(x, 0, Check.bytes(512, 1));
        return x;
    }

    private static byte[] key(int bytes) {
        return Check.bytes(bytes, bytes);
    }

    private static void dueBuffer(String what, SealedModule x, byte[] before, int at, byte[] now) {
        byte[] want = before.clone();
        System.arraycopy(now, 0, want, at, now.length);
        C.dueBytes(what, Check.get(x, 0, 512), want);
    }

    private static void ecb(int bytes) {
        SealedModule x = withKey(bytes);
        for (int n = 0; n <= 512; n += 128) {
            byte[] before = Check.get(x, 0, 512);
            byte[] text = Arrays.copyOfRange(before, 512 - n, 512);
            C.due("ECB seal of " + n, x.run(1, 0, 512 - n, n, 0), n);
            dueBuffer("ECB", x, before, 512 - n, Reference.aes("ECB", true, key(bytes), null, text));
            C.due("ECB open of " + n, x.run(2, 0, 512 - n, n, 0), n);
            dueBuffer("ECB", x, before, 512 - n, text);
        }
    }

    private static void cbc(int bytes) {
        SealedModule x = withKey(bytes);
        for (int n = 16; n <= 512; n += 124 * 4) {
            byte[] before = Check.get(x, 0, 512);
            byte[] start = Arrays.copyOf(before, 16);
            byte[] text = Arrays.copyOfRange(before, 16, n);
            C.due("CBC seal of " + n, x.run(3, 0, 0, n, 0), n);
            dueBuffer("CBC", x, before, 16, Reference.aes("CBC", true, key(bytes), start, text));
            C.due("CBC open of " + n, x.run(4, 0, 0, n, 0), n);
            dueBuffer("CBC", x, before, 0, new byte[0]);
        }
    }

    private static void ctr(int bytes) {
        SealedModule x = withKey(bytes);
        int[] sizes = {16, 17, 31, 32, 33, 100, 505};
        for (int n : sizes) {
            byte[] before = Check.get(x, 0, 512);
            byte[] start = Arrays.copyOfRange(before, 7, 23);
            byte[] text = Arrays.copyOfRange(before, 23, 7 + n);
            C.due("CTR of " + n, x.run(5, 0, 7, n, 0), n);
            dueBuffer("CTR", x, before, 23, Reference.aes("CTR", true, key(bytes), start, text));
        }
    }

    private static void gcm(int bytes) {
        int[][] sizes = {{0, 0}, {0, 1}, {1, 0}, {20, 60}, {64, 0}, {16, 16}, {17, 33}, {64, 420}};
        for (int[] size : sizes) {
            SealedModule x = withKey(bytes);
            int m = size[0];
            int n = 12 + m + size[1];
            int at = 496 - n;
            byte[] before = Check.get(x, 0, 512);
            byte[] nonce = Arrays.copyOfRange(before, at, at + 12);
            byte[] header = Arrays.copyOfRange(before, at + 12, at + 12 + m);
            byte[] text = Arrays.copyOfRange(before, at + 12 + m, at + n);
            byte[] sealed = Reference.gcm(true, key(bytes), nonce, header, text);
            C.due("GCM seal of " + m + ", " + n, x.run(6, 0, at, n, m), n + 16);
            dueBuffer("GCM seal", x, before, at + 12 + m, sealed);
            byte[] tag = Arrays.copyOfRange(sealed, text.length, sealed.length);
            C.due("GCM open of " + m + ", " + n, x.run(7, 0, at, n + 16, m), n);
            dueBuffer("GCM open", x, before, at + n, tag);
        }
    }

    private static void cmac(int bytes) {
        int[] sizes = {0, 1, 15, 16, 17, 31, 32, 40, 64, 412};
        for (int n : sizes) {
            SealedModule x = withKey(bytes);
            byte[] before = Check.get(x, 0, 512);
            byte[] text = Arrays.copyOfRange(before, 100, 100 + n);
            C.due("CMAC of " + n, x.run(8, 0, 100, n, 0), 16);
            dueBuffer("CMAC", x, before, 100, Reference.cmac(key(bytes), text));
        }
    }

    private static void knownAnswers() {
        SealedModule x = Check.officer();
        Check.put(x, 0, Check.unhex("2b7e151628aed2a6abf7158809cf4f3c"));
        x.load(0, 1, 7, 1, -1, 16);
        x.run(8, 0, 0, 0, 0);
        C.dueBytes("RFC 4493, 1", Check.get(x, 0, 16), Check.unhex("bb1d6929e95937287fa37d129b756746"));
        Check.put(x, 0, Check.unhex("6bc1bee22e409f96e93d7e117393172aae2d8a571e03ac9c9eb76fac45af8e51"
                + "30c81c46a35ce411"));
        x.run(8, 0, 0, 40, 0);
        C.dueBytes("RFC 4493, 3", Check.get(x, 0, 16), Check.unhex("dfa66747de9ae63030ca32611497c827"));
        Check.put(x, 0, Check.unhex("4a656665"));
        x.load(1, 2, 4, 1, -1, 4);
        Check.put(x, 0, "what do ya want for nothing?".getBytes(java.nio.charset.StandardCharsets.ISO_8859_1));
        x.run(10, 1, 0, 28, 0);
        C.dueBytes("RFC 4231, 2", Check.get(x, 0, 32),
                Check.unhex("5bdcc146bf60754e6a042426089575c75a003f089d2739839dec58b964ec3843"));
    }

    private static void counterCarries() {
        for (int ones = 1; ones <= 16; ones++) {
            SealedModule x = withKey(16);
            byte[] start = new byte[16];
            Arrays.fill(start, 16 - ones, 16, (byte) 0xff);
            Check.put(x, 0, start);
            byte[] before = Check.get(x, 0, 512);
            byte[] text = Arrays.copyOfRange(before, 16, 64);
            C.due("CTR", x.run(5, 0, 0, 64, 0), 64);
            dueBuffer("carry over " + ones, x, before, 16, Reference.aes("CTR", true, key(16), start, text));
        }
    }

    private static void gcmWrongBits() {
        SealedModule x = withKey(16);
        x.run(6, 0, 0, 40, 8);
        byte[] sealed = Check.get(x, 0, 512);
        for (int i = 0; i < 56; i++) {
            x.poke(i, sealed[i] ^ 1 << i % 8, 1);
            byte[] before = Check.get(x, 0, 64);
            C.due("byte " + i, x.run(7, 0, 0, 56, 8), -9);
            C.dueBytes("nothing changes", Check.get(x, 0, 64), before);
            x.poke(i, sealed[i], 1);
        }
        C.due("another header", x.run(7, 0, 0, 56, 9), -9);
        C.due("right", x.run(7, 0, 0, 56, 8), 40);
    }

    private static void sha() {
        for (int n = 0; n <= 480; n += n < 130 ? 1 : 50) {
            SealedModule x = Check.user();
            byte[] before = Check.bytes(512, n);
            Check.put(x, 0, before);
            C.due("SHA of " + n, x.run(9, -1, 32, n, 0), 32);
            dueBuffer("SHA", x, before, 32, Reference.sha(Arrays.copyOfRange(before, 32, 32 + n)));
        }
    }

    private static void hmac() {
        int[] keys = {1, 20, 32, 63, 64};
        int[] sizes = {0, 1, 55, 56, 64, 119, 120, 512};
        for (int key : keys) {
            for (int n : sizes) {
                SealedModule x = Check.officer();
                byte[] before = Check.bytes(512, n + key);
                Check.put(x, 0, before);
                x.load(0, 2, 4, 1, -1, key);
                C.due("HMAC of " + n, x.run(10, 0, 0, n, 0), 32);
                dueBuffer("HMAC", x, before, 0, Reference.hmac(Arrays.copyOf(before, key), Arrays.copyOf(before, n)));
            }
        }
    }

    private static void lengths() {
        SealedModule x = withKey(16);
        x.load(1, 2, 4, 1, -1, 8);
        int[][] rows = {
            // service, at, n, m, answer
            {1, 0, 15, 0, -2}, {1, 0, 0, 0, 0}, {1, 0, -16, 0, -2}, {1, 496, 16, 0, 16}, {1, 497, 16, 0, -2},
            {1, -1, 16, 0, -2}, {1, 512, 0, 0, 0}, {1, 513, 0, 0, -2}, {1, 0, 528, 0, -2},
            {1, 16, Integer.MAX_VALUE - 15, 0, -2}, {1, Integer.MAX_VALUE, 16, 0, -2},
            {2, 0, 17, 0, -2}, {2, 0, 0, 0, 0}, {2, 497, 16, 0, -2},
            {3, 0, 0, 0, -2}, {3, 0, 16, 0, 16}, {3, 0, 40, 0, -2}, {3, 481, 32, 0, -2},
            {4, 0, 0, 0, -2}, {4, 0, 16, 0, 16}, {4, 0, 40, 0, -2}, {4, 481, 32, 0, -2},
            {5, 0, 15, 0, -2}, {5, 0, 16, 0, 16}, {5, 0, 512, 0, 512}, {5, 1, 512, 0, -2},
            {6, 0, 11, 0, -2}, {6, 0, 12, 0, 28}, {6, 0, 13, 2, -2}, {6, 0, 14, 2, 30}, {6, 0, 12, -1, -2},
            {6, 0, 76, 64, 92}, {6, 0, 77, 65, -2}, {6, 484, 12, 0, 28}, {6, 485, 12, 0, -2},
            {6, 0, 496, 0, 512}, {6, 0, 497, 0, -2}, {6, 0, Integer.MAX_VALUE, 0, -2},
            {7, 0, 27, 0, -2}, {7, 0, 28, 0, -9}, {7, 0, 29, 2, -2}, {7, 0, 30, 2, -9}, {7, 0, 100, 65, -2},
            {7, 0, 100, -1, -2}, {7, 484, 28, 0, -9}, {7, 485, 28, 0, -2}, {7, 0, 92, 64, -9}, {7, 0, 91, 64, -2},
            {8, 496, 0, 0, 16}, {8, 497, 0, 0, -2}, {8, 497, 15, 0, -2}, {8, 0, 512, 0, 16}, {8, 0, 513, 0, -2},
            {8, 0, -1, 0, -2},
            {9, 480, 0, 0, 32}, {9, 481, 0, 0, -2}, {9, 0, 512, 0, 32}, {9, 1, 512, 0, -2}, {9, 0, -1, 0, -2},
            {9, -1, 3, 0, -2},
        };
        for (int[] r : rows) {
            C.due("run " + Arrays.toString(r), x.run(r[0], 0, r[1], r[2], r[3]), r[4]);
        }
        C.due("HMAC at 480", x.run(10, 1, 480, 32, 0), 32);
        C.due("HMAC at 481", x.run(10, 1, 481, 0, 0), -2);
        C.due("HMAC of 513", x.run(10, 1, 0, 513, 0), -2);
    }

    private static void extraIsZeroForOthers() {
        SealedModule x = withKey(16);
        x.load(1, 2, 4, 1, -1, 8);
        int[] services = {1, 2, 3, 4, 5, 8, 9, 10};
        for (int service : services) {
            int slot = service == 10 ? 1 : 0;
            C.due("m 1 of " + service, x.run(service, slot, 0, 32, 1), -2);
            C.due("m -1 of " + service, x.run(service, slot, 0, 32, -1), -2);
            C.due("m 0 of " + service, x.run(service, slot, 0, 32, 0) > 0, true);
        }
    }

    private static void statesAndNumbers() {
        C.due("off", new SealedModule().run(9, 0, 0, 0, 0), -1);
        C.due("ready", Check.ready().run(99, 0, 0, 0, 0), -1);
        SealedModule x = withKey(16);
        C.due("service 0", x.run(0, 0, 0, 16, 0), -2);
        C.due("service 12", x.run(12, 0, 0, 16, 0), -2);
        C.due("service lowest", x.run(Integer.MIN_VALUE, 0, 0, 16, 0), -2);
        for (int service = 1; service <= 10; service++) {
            int want = service == 9 ? 32 : -2;
            C.due("slot -1 of " + service, x.run(service, -1, 0, 32, 0), want);
            C.due("slot 16 of " + service, x.run(service, 16, 0, 32, 0), want);
        }
    }

    private static void kindsAndBits() {
        for (int service = 1; service <= 10; service++) {
            int bit = service == 8 || service == 10 ? 4 : service == 2 || service == 4 || service == 7 ? 2 : 1;
            int kind = service == 10 ? 2 : 1;
            int n = 48;
            SealedModule x = Check.officer();
            x.load(0, kind, bit, 1, -1, 16);
            x.load(1, kind, 63 - bit, 1, -1, 16);
            x.load(2, 3 - kind, 63, 1, -1, 16);
            if (service == 9) {
                continue;
            }
            int answer = x.run(service, 0, 0, n, 0);
            C.due("with the bit, " + service, answer > 0 || service == 7 && answer == -9, true);
            C.due("without, " + service, x.run(service, 1, 0, n, 0), -6);
            C.due("other kind, " + service, x.run(service, 2, 0, n, 0), -5);
            C.due("empty, " + service, x.run(service, 3, 0, n, 0), -4);
        }
    }

    private static void refusalsInOrder() {
        SealedModule x = Check.officer();
        x.load(0, 2, 0, 2, 0, 16);
        x.load(1, 2, 0, 1, 0, 16);
        x.load(2, 1, 0, 1, 0, 16);
        x.load(3, 1, 1, 1, 0, 16);
        C.due("number before role", x.run(1, 0, 0, 15, 0), -2);
        C.due("role before kind", x.run(1, 0, 0, 16, 0), -3);
        C.due("kind before usage", x.run(1, 1, 0, 16, 0), -5);
        C.due("usage before uses", x.run(1, 2, 0, 16, 0), -6);
        C.due("uses", x.run(1, 3, 0, 16, 0), -7);
        Check.change(x, 2);
        C.due("the officer's", x.run(1, 3, 0, 16, 0), -3);
        C.due("the user's own", x.run(1, 0, 0, 16, 0), -5);
    }

    private static void uses() {
        SealedModule x = Check.officer();
        x.load(0, 1, 7, 1, 4, 16);
        x.run(1, 0, 0, 15, 0);
        C.due("a refusal takes none", x.slotInfo(0, 4), 4);
        x.run(1, 0, 0, 0, 0);
        C.due("no bytes take one", x.slotInfo(0, 4), 3);
        C.due("a failing check", x.run(7, 0, 0, 28, 0), -9);
        C.due("takes one", x.slotInfo(0, 4), 2);
        x.run(8, 0, 0, 0, 0);
        x.run(5, 0, 0, 16, 0);
        C.due("none left", x.run(1, 0, 0, 16, 0), -7);
        C.due("none left", x.slotInfo(0, 4), 0);
        x.load(1, 1, 7, 1, -1, 16);
        x.run(1, 1, 0, 16, 0);
        C.due("without a limit", x.slotInfo(1, 4), -1);
    }
}
