import java.nio.charset.StandardCharsets;
import java.util.Arrays;

/** The term SERVICES, and promise 20: run, by the standards and against Java's own library. */
public final class ServicesTest {
    private static final Check C = new Check();

    public static void main(String[] args) {
        C.holds("over n bytes of the buffer from place at on (its end within the buffer)", ServicesTest::places);
        C.holds("what comes out stands there", ServicesTest::restOfBufferStays);
        C.holds("the answer is how many bytes", ServicesTest::answers);
        C.holds("Seal and open need these bits .. (bit mac for 8, 10)", ServicesTest::bits);
        C.holds("AES slots for 1 to 8, MAC slots for 10", ServicesTest::kinds);
        C.holds("1 ECB, seal; 2 ECB, open", ServicesTest::ecb);
        C.holds("ECB (n a multiple of 16 from 0 on)", ServicesTest::lengthsOfEcb);
        C.holds("3 CBC, seal; 4 CBC, open: 16 bytes of start come first", ServicesTest::cbc);
        C.holds("CBC (n a multiple of 16 from 16 on)", ServicesTest::lengthsOfCbc);
        C.holds("the start stays, the answer is n", ServicesTest::startOfCbcStays);
        C.holds("5 CTR (seal): 16 bytes of counter .. come first", ServicesTest::ctr);
        C.holds("(counted up as a number of 128 bits)", ServicesTest::counterOfCtr);
        C.holds("n at least 16; they stay", ServicesTest::lengthsOfCtr);
        C.holds("6 GCM, seal: 12 bytes of nonce, m bytes of header .. then the text", ServicesTest::gcm);
        C.holds("(m 0 .. 64)", ServicesTest::headersOfGcm);
        C.holds("n is 12 + m + text", ServicesTest::shortestOfGcmSeal);
        C.holds("16 bytes of tag come behind", ServicesTest::tagBehind);
        C.holds("(the answer n + 16, which has to be in the buffer)", ServicesTest::tagInBuffer);
        C.holds("7 GCM, open: .. n at least 28 + m", ServicesTest::shortestOfGcmOpen);
        C.holds("when the tag is right, the text is in its place and the answer n - 16", ServicesTest::gcmOpens);
        C.holds("otherwise -9, nothing changes", ServicesTest::gcmDoesNotOpen);
        C.holds("8 CMAC: 16 bytes over the n (their beginning is overwritten", ServicesTest::cmac);
        C.holds("CMAC: n from 0 on, the place's 16 in the buffer", ServicesTest::lengthsOfCmac);
        C.holds("9 SHA-256 .. : 32 bytes, likewise.", ServicesTest::sha);
        C.holds("SHA-256, likewise: n from 0 on, the place's 32 in the buffer", ServicesTest::lengthsOfSha);
        C.holds("(slot is not looked at)", ServicesTest::slotOfSha);
        C.holds("10 HMAC-SHA-256: likewise.", ServicesTest::hmac);
        C.holds("HMAC, likewise: n from 0 on, the place's 32 in the buffer", ServicesTest::lengthsOfHmac);
        C.holds("m is 0 for others.", ServicesTest::extraIsZero);
        C.holds("Promise 20: A service: how many bytes", ServicesTest::knownAnswers);
        C.holds("Promise 20: or a refusal.", ServicesTest::statesOfRun);
        C.finish();
    }

    /** An officer with a key for AES in slot 0 and one for MAC in slot 1; the buffer is filled. */
    private static Counted withKeys(int bytes) {
        Counted x = Check.officer();
        Check.put(x, 0, key(bytes));
        x.load(0, 1, 7, 1, -1, bytes);
        x.load(1, 2, 4, 1, -1, bytes);
        Check.put(x, 0, filling());
        return x;
    }

    private static byte[] key(int bytes) {
        return Check.bytes(bytes, bytes);
    }

    private static byte[] filling() {
        return Check.bytes(512, 1);
    }

    private static byte[] filling(int from, int to) {
        return Arrays.copyOfRange(filling(), from, to);
    }

    private static int slotFor(int service) {
        return service == 10 ? 1 : 0;
    }

    /** Runs rows of service, place, n, m and the answer that is due. */
    private static void runRows(int[][] rows) {
        Counted x = withKeys(16);
        for (int[] r : rows) {
            C.due("run " + Arrays.toString(r), x.run(r[0], slotFor(r[0]), r[1], r[2], r[3]), r[4]);
        }
    }

    private static void places() {
        for (int service = 1; service <= 11; service++) {
            Counted x = withKeys(16);
            Check.feed(x, 0, 12);
            int slot = slotFor(service);
            int n = service == 7 ? 48 : 32;
            int room = service == 6 ? n + 16 : n;
            int[][] wrong = {
                {513 - room, n}, {-1, n}, {-n, n}, {512, n}, {513, 0}, {513, n}, {0, -1}, {0, -16}, {16, -16}, {512, -32},
                {0, 528}, {16, 512}, {Check.HIGHEST, n}, {Check.HIGHEST - n + 1, n}, {Check.LOWEST, n},
                {16, Check.HIGHEST - 15}, {32, Check.HIGHEST - 31}, {0, Check.LOWEST}, {Check.LOWEST, Check.LOWEST},
            };
            for (int[] r : wrong) {
                C.due("service " + service + Arrays.toString(r), x.run(service, slot, r[0], r[1], 0), -2);
            }
            C.dueBytes("nothing was written", Check.get(x, 0, 512), filling());
            int last = x.run(service, slot, 512 - room, n, 0);
            C.due("service " + service + " at the end", service == 7 ? last == -9 : last > 0, true);
        }
        Counted x = withKeys(16);
        Check.feed(x, 0, 12);
        C.due("no bytes at the end", x.run(1, 0, 512, 0, 0), 0);
        C.due("no bytes at the end", x.run(2, 0, 512, 0, 0), 0);
        C.due("no bytes at the end", x.run(11, 0, 512, 0, 0), 0);
    }

    private static void restOfBufferStays() {
        for (int service = 1; service <= 11; service++) {
            for (int at = 0; at <= 464; at += 464) {
                Counted x = withKeys(16);
                Check.feed(x, 0, 12);
                int n = service == 6 ? 32 : 48;
                x.run(service, slotFor(service), at, n, 0);
                byte[] now = Check.get(x, 0, 512);
                byte[] want = filling();
                int out = service == 8 ? 16 : service == 9 || service == 10 ? 32 : 48;
                System.arraycopy(now, at, want, at, out);
                C.dueBytes("round service " + service, now, want);
                C.due("there, service " + service, Arrays.equals(now, filling()), service == 7);
            }
        }
    }

    private static void answers() {
        int[][] rows = {
            {1, 0, 64, 0, 64}, {2, 0, 64, 0, 64}, {3, 0, 64, 0, 64}, {4, 0, 64, 0, 64}, {5, 0, 61, 0, 61},
            {6, 0, 61, 9, 77}, {7, 0, 77, 9, 61}, {8, 0, 61, 0, 16}, {9, 0, 61, 0, 32}, {10, 0, 61, 0, 32},
        };
        runRows(rows);
        Counted x = withKeys(16);
        Check.feed(x, 0, 12);
        C.due("the generator", x.run(11, 0, 0, 61, 9), 61);
    }

    private static void bits() {
        int[] bits = {0, 1, 2, 1, 2, 1, 1, 2, 4, 0, 4};
        for (int service = 1; service <= 10; service++) {
            for (int usage = 1; usage <= 32 && service != 9; usage *= 2) {
                Counted x = Check.officer();
                x.load(0, service == 10 ? 2 : 1, usage, 1, -1, 16);
                int answer = x.run(service, 0, 0, 48, 0);
                C.due("service " + service + " with bit " + usage, answer == -6, usage != bits[service]);
            }
        }
    }

    private static void kinds() {
        for (int service = 1; service <= 10; service++) {
            Counted x = Check.officer();
            x.load(1, 1, 63, 1, -1, 16);
            x.load(2, 2, 63, 1, -1, 16);
            int ofAes = x.run(service, 1, 0, 48, 0);
            int ofMac = x.run(service, 2, 0, 48, 0);
            C.due("AES for " + service, ofAes == -5, service == 10);
            C.due("MAC for " + service, ofMac == -5, service <= 8);
        }
    }

    private static void ecb() {
        for (int bytes = 16; bytes <= 32; bytes += 16) {
            for (int n = 0; n <= 512; n += 128) {
                Counted x = withKeys(bytes);
                byte[] text = filling(512 - n, 512);
                C.due("seal of " + n, x.run(1, 0, 512 - n, n, 0), n);
                byte[] sealed = Reference.aes("ECB", true, key(bytes), null, text);
                C.dueBuffer("sealed", x, filling(), 512 - n, sealed);
                C.due("open of " + n, x.run(2, 0, 512 - n, n, 0), n);
                C.dueBytes("opened", Check.get(x, 0, 512), filling());
                C.due("open of what was not sealed", x.run(2, 0, 512 - n, n, 0), n);
                byte[] opened = Reference.aes("ECB", false, key(bytes), null, text);
                C.dueBuffer("opened", x, filling(), 512 - n, opened);
            }
        }
    }

    private static void lengthsOfEcb() {
        for (int service = 1; service <= 2; service++) {
            for (int n = 0; n <= 49; n++) {
                Counted x = withKeys(16);
                C.due("service " + service + " of " + n, x.run(service, 0, 3, n, 0), n % 16 == 0 ? n : -2);
            }
        }
        int[][] rows = {{1, 0, 512, 0, 512}, {2, 0, 512, 0, 512}, {1, 0, -16, 0, -2}, {2, 0, -16, 0, -2}, {1, 0, 496, 0, 496}};
        runRows(rows);
    }

    private static void cbc() {
        int[] sizes = {16, 32, 48, 272, 512};
        for (int bytes = 16; bytes <= 32; bytes += 16) {
            for (int n : sizes) {
                int at = 512 - n;
                Counted x = withKeys(bytes);
                byte[] start = filling(at, at + 16);
                byte[] text = filling(at + 16, 512);
                C.due("seal of " + n, x.run(3, 0, at, n, 0), n);
                C.dueBuffer("sealed", x, filling(), at + 16, Reference.aes("CBC", true, key(bytes), start, text));
                C.due("open of " + n, x.run(4, 0, at, n, 0), n);
                C.dueBytes("opened", Check.get(x, 0, 512), filling());
                C.due("open of what was not sealed", x.run(4, 0, at, n, 0), n);
                C.dueBuffer("opened", x, filling(), at + 16, Reference.aes("CBC", false, key(bytes), start, text));
            }
        }
    }

    private static void lengthsOfCbc() {
        for (int service = 3; service <= 4; service++) {
            for (int n = 0; n <= 49; n++) {
                Counted x = withKeys(16);
                C.due("service " + service + " of " + n, x.run(service, 0, 3, n, 0), n >= 16 && n % 16 == 0 ? n : -2);
            }
        }
        int[][] rows = {{3, 0, 512, 0, 512}, {4, 0, 512, 0, 512}, {3, 0, -16, 0, -2}, {4, 0, -16, 0, -2}, {3, 512, 0, 0, -2}};
        runRows(rows);
    }

    private static void startOfCbcStays() {
        for (int service = 3; service <= 4; service++) {
            Counted x = withKeys(16);
            C.due("the start alone", x.run(service, 0, 5, 16, 0), 16);
            C.dueBytes("all stays", Check.get(x, 0, 512), filling());
            C.due("with text", x.run(service, 0, 5, 48, 0), 48);
            C.dueBytes("the start stays", Check.get(x, 0, 21), filling(0, 21));
        }
    }

    private static void ctr() {
        int[] sizes = {16, 17, 31, 32, 33, 48, 100, 505};
        for (int bytes = 16; bytes <= 32; bytes += 16) {
            for (int n : sizes) {
                Counted x = withKeys(bytes);
                byte[] start = filling(7, 23);
                byte[] text = filling(23, 7 + n);
                C.due("CTR of " + n, x.run(5, 0, 7, n, 0), n);
                C.dueBuffer("CTR", x, filling(), 23, Reference.aes("CTR", true, key(bytes), start, text));
                C.due("back again", x.run(5, 0, 7, n, 0), n);
                C.dueBytes("back again", Check.get(x, 0, 512), filling());
            }
        }
    }

    private static void counterOfCtr() {
        for (int ones = 1; ones <= 16; ones++) {
            Counted x = withKeys(16);
            byte[] start = new byte[16];
            Arrays.fill(start, 16 - ones, 16, (byte) 0xff);
            Check.put(x, 0, start);
            byte[] before = Check.get(x, 0, 512);
            C.due("CTR", x.run(5, 0, 0, 64, 0), 64);
            byte[] want = Reference.aes("CTR", true, key(16), start, filling(16, 64));
            C.dueBuffer("carry over " + ones + " bytes", x, before, 16, want);
        }
        Counted x = withKeys(16);
        byte[] start = new byte[16];
        Arrays.fill(start, (byte) 0xff);
        Check.put(x, 0, start);
        Check.put(x, 16, new byte[32]);
        x.run(5, 0, 0, 48, 0);
        C.dueBytes("behind the highest number comes 0", Check.get(x, 32, 16),
                Reference.aes("ECB", true, key(16), null, new byte[16]));
    }

    private static void lengthsOfCtr() {
        int[][] rows = {
            {5, 0, 0, 0, -2}, {5, 0, 15, 0, -2}, {5, 0, -1, 0, -2}, {5, 0, 16, 0, 16}, {5, 496, 16, 0, 16},
            {5, 497, 15, 0, -2}, {5, 0, 512, 0, 512}, {5, 1, 511, 0, 511}, {5, 1, 512, 0, -2},
        };
        runRows(rows);
        Counted x = withKeys(16);
        x.run(5, 0, 5, 16, 0);
        C.dueBytes("the counter alone stays", Check.get(x, 0, 512), filling());
        x.run(5, 0, 5, 37, 0);
        C.dueBytes("the counter stays", Check.get(x, 0, 21), filling(0, 21));
    }

    private static byte[] sealed(int bytes, int at, int m, int n) {
        return Reference.gcm(true, key(bytes), filling(at, at + 12), filling(at + 12, at + 12 + m), filling(at + 12 + m, at + n));
    }

    private static void gcm() {
        int[][] sizes = {
            {0, 0}, {0, 1}, {1, 0}, {15, 15}, {16, 16}, {17, 17}, {20, 60}, {31, 33}, {64, 0}, {64, 420}, {0, 484},
        };
        for (int bytes = 16; bytes <= 32; bytes += 16) {
            for (int[] size : sizes) {
                Counted x = withKeys(bytes);
                int m = size[0];
                int n = 12 + m + size[1];
                int at = 496 - n;
                C.due("seal of " + m + ", " + n, x.run(6, 0, at, n, m), n + 16);
                C.dueBuffer("sealed " + m + ", " + n, x, filling(), at + 12 + m, sealed(bytes, at, m, n));
            }
        }
    }

    private static void headersOfGcm() {
        for (int m = 0; m <= 64; m++) {
            Counted x = withKeys(16);
            C.due("seal with header " + m, x.run(6, 0, 0, 100, m), 116);
            C.dueBytes("sealed", Check.get(x, 12 + m, 104 - m), sealed(16, 0, m, 100));
            C.due("open with header " + m, x.run(7, 0, 0, 116, m), 100);
            C.dueBytes("opened", Check.get(x, 0, 100), filling(0, 100));
        }
        int[] wrong = {-1, 65, -12, Check.LOWEST, Check.HIGHEST, Check.HIGHEST - 11, Check.HIGHEST - 27};
        for (int m : wrong) {
            Counted x = withKeys(16);
            C.due("seal with header " + m, x.run(6, 0, 0, 100, m), -2);
            C.due("open with header " + m, x.run(7, 0, 0, 116, m), -2);
            C.due("seal of most with header " + m, x.run(6, 0, 0, 496, m), -2);
            C.due("open of most with header " + m, x.run(7, 0, 0, 512, m), -2);
        }
    }

    private static void shortestOfGcmSeal() {
        for (int m = 0; m <= 64; m++) {
            int[][] rows = {{6, 0, 12 + m, m, 28 + m}, {6, 0, 11 + m, m, -2}, {6, 0, 13 + m, m, 29 + m}};
            runRows(rows);
        }
        int[][] rows = {{6, 0, 0, 0, -2}, {6, 0, -1, 0, -2}, {6, 0, 12, 64, -2}, {6, 0, 64, 64, -2}};
        runRows(rows);
    }

    private static void tagBehind() {
        int[] sizes = {12, 13, 28, 76, 100};
        for (int n : sizes) {
            Counted x = withKeys(16);
            C.due("seal of " + n, x.run(6, 0, 3, n, 0), n + 16);
            byte[] sealed = sealed(16, 3, 0, n);
            C.dueBytes("the tag", Check.get(x, 3 + n, 16), Arrays.copyOfRange(sealed, n - 12, n + 4));
            C.dueBytes("what stands behind it", Check.get(x, 19 + n, 16), filling(19 + n, 35 + n));
        }
    }

    private static void tagInBuffer() {
        int[][] rows = {
            {6, 0, 496, 0, 512}, {6, 0, 497, 0, -2}, {6, 0, 511, 0, -2}, {6, 0, 512, 0, -2}, {6, 484, 12, 0, 28},
            {6, 485, 12, 0, -2}, {6, 500, 12, 0, -2}, {6, 420, 76, 64, 92}, {6, 421, 76, 64, -2},
            {6, 0, Check.HIGHEST, 0, -2}, {6, 0, Check.HIGHEST - 15, 0, -2},
        };
        runRows(rows);
    }

    private static void shortestOfGcmOpen() {
        for (int m = 0; m <= 64; m++) {
            int[][] rows = {{7, 0, 28 + m, m, -9}, {7, 0, 27 + m, m, -2}, {7, 0, 29 + m, m, -9}};
            runRows(rows);
        }
        int[][] rows = {
            {7, 0, 0, 0, -2}, {7, 0, 16, 0, -2}, {7, 484, 28, 0, -9}, {7, 485, 28, 0, -2}, {7, 0, 512, 0, -9}, {7, 1, 512, 0, -2},
        };
        runRows(rows);
    }

    private static void gcmOpens() {
        int[][] sizes = {{0, 0}, {0, 1}, {1, 0}, {16, 16}, {17, 33}, {64, 0}, {64, 420}, {0, 484}};
        for (int bytes = 16; bytes <= 32; bytes += 16) {
            for (int[] size : sizes) {
                Counted x = withKeys(bytes);
                int m = size[0];
                int n = 12 + m + size[1];
                int at = 496 - n;
                byte[] sealed = sealed(bytes, at, m, n);
                Check.put(x, at + 12 + m, sealed);
                C.due("open of " + m + ", " + n, x.run(7, 0, at, n + 16, m), n);
                byte[] tag = Arrays.copyOfRange(sealed, size[1], sealed.length);
                C.dueBuffer("opened " + m + ", " + n, x, filling(), at + n, tag);
            }
        }
    }

    private static void gcmDoesNotOpen() {
        for (int i = 0; i < 56; i++) {
            Counted x = withKeys(16);
            Check.put(x, 20, sealed(16, 0, 8, 40));
            byte[] right = Check.get(x, 0, 512);
            x.poke(i, right[i] ^ 1 << i % 8, 1);
            byte[] before = right.clone();
            before[i] ^= 1 << i % 8;
            C.due("byte " + i, x.run(7, 0, 0, 56, 8), -9);
            C.dueBytes("nothing changes", Check.get(x, 0, 512), before);
            x.poke(i, right[i], 1);
            C.due("the right byte", x.run(7, 0, 0, 56, 8), 40);
        }
        Counted x = withKeys(16);
        Check.put(x, 20, sealed(16, 0, 8, 40));
        byte[] before = Check.get(x, 0, 512);
        C.due("a longer header", x.run(7, 0, 0, 56, 9), -9);
        C.due("a shorter header", x.run(7, 0, 0, 56, 7), -9);
        C.due("a longer text", x.run(7, 0, 0, 57, 8), -9);
        C.due("a shorter text", x.run(7, 0, 0, 55, 8), -9);
        C.dueBytes("nothing changes", Check.get(x, 0, 512), before);
    }

    private static void cmac() {
        int[] sizes = {0, 1, 15, 16, 17, 31, 32, 33, 40, 64, 412};
        for (int bytes = 16; bytes <= 32; bytes += 16) {
            for (int n : sizes) {
                Counted x = withKeys(bytes);
                C.due("CMAC of " + n, x.run(8, 0, 100, n, 0), 16);
                C.dueBuffer("CMAC of " + n, x, filling(), 100, Reference.cmac(key(bytes), filling(100, 100 + n)));
            }
        }
    }

    private static void lengthsOfCmac() {
        int[][] rows = {
            {8, 496, 0, 0, 16}, {8, 496, 16, 0, 16}, {8, 496, 17, 0, -2}, {8, 497, 0, 0, -2}, {8, 497, 15, 0, -2},
            {8, 512, 0, 0, -2}, {8, 0, 512, 0, 16}, {8, 0, 513, 0, -2}, {8, 0, -1, 0, -2}, {8, -1, 16, 0, -2},
        };
        runRows(rows);
    }

    private static void sha() {
        for (int n = 0; n <= 480; n += n < 130 ? 1 : 50) {
            Counted x = Check.user();
            Check.put(x, 0, filling());
            C.due("SHA of " + n, x.run(9, 0, 32, n, 0), 32);
            C.dueBuffer("SHA of " + n, x, filling(), 32, Reference.sha(filling(32, 32 + n)));
        }
    }

    private static void lengthsOfSha() {
        int[][] rows = {
            {9, 480, 0, 0, 32}, {9, 480, 32, 0, 32}, {9, 480, 33, 0, -2}, {9, 481, 0, 0, -2}, {9, 481, 31, 0, -2},
            {9, 512, 0, 0, -2}, {9, 0, 512, 0, 32}, {9, 0, 513, 0, -2}, {9, 1, 512, 0, -2}, {9, 0, -1, 0, -2}, {9, -1, 32, 0, -2},
        };
        runRows(rows);
    }

    private static void slotOfSha() {
        Counted x = Check.officer();
        x.load(0, 1, 0, 2, 0, 16);
        x.load(1, 1, 7, 1, 5, 16);
        int[] slots = {-1, 0, 1, 2, 15, 16, 99, Check.LOWEST, Check.HIGHEST};
        for (int slot : slots) {
            C.due("SHA, slot " + slot, x.run(9, slot, 0, 3, 0), 32);
        }
        C.due("no use is taken", x.slotInfo(1, 4), 5);
    }

    private static void hmac() {
        int[] keys = {1, 20, 32, 63, 64};
        int[] sizes = {0, 1, 55, 56, 63, 64, 119, 120, 512};
        for (int bytes : keys) {
            for (int n : sizes) {
                Counted x = Check.officer();
                Check.put(x, 0, filling());
                x.load(0, 2, 4, 1, -1, bytes);
                C.due("HMAC of " + n, x.run(10, 0, 0, n, 0), 32);
                C.dueBuffer("HMAC of " + n, x, filling(), 0, Reference.hmac(filling(0, bytes), filling(0, n)));
            }
        }
    }

    private static void lengthsOfHmac() {
        int[][] rows = {
            {10, 480, 0, 0, 32}, {10, 480, 32, 0, 32}, {10, 480, 33, 0, -2}, {10, 481, 0, 0, -2}, {10, 481, 31, 0, -2},
            {10, 512, 0, 0, -2}, {10, 0, 512, 0, 32}, {10, 0, 513, 0, -2}, {10, 0, -1, 0, -2}, {10, -1, 32, 0, -2},
        };
        runRows(rows);
    }

    private static void extraIsZero() {
        int[] services = {1, 2, 3, 4, 5, 8, 9, 10};
        int[] wrong = {1, -1, 16, 64, 65, Check.LOWEST, Check.HIGHEST};
        for (int service : services) {
            Counted x = withKeys(16);
            for (int m : wrong) {
                C.due("service " + service + " with m " + m, x.run(service, slotFor(service), 0, 32, m), -2);
            }
            C.due("service " + service + " with m 0", x.run(service, slotFor(service), 0, 32, 0) > 0, true);
        }
    }

    private static void knownAnswers() {
        Counted x = Check.officer();
        Check.put(x, 0, Check.unhex("2b7e151628aed2a6abf7158809cf4f3c"));
        x.load(0, 1, 7, 1, -1, 16);
        x.run(8, 0, 0, 0, 0);
        C.dueBytes("RFC 4493, 1", Check.get(x, 0, 16), Check.unhex("bb1d6929e95937287fa37d129b756746"));
        Check.put(x, 0, Check.unhex("6bc1bee22e409f96e93d7e117393172aae2d8a571e03ac9c9eb76fac45af8e51"
                + "30c81c46a35ce411"));
        x.run(8, 0, 0, 40, 0);
        C.dueBytes("RFC 4493, 3", Check.get(x, 0, 16), Check.unhex("dfa66747de9ae63030ca32611497c827"));
        Check.put(x, 0, Check.unhex("4a656665"));
        x.load(1, 2, 4, 1, -1, 4);
        Check.put(x, 0, "what do ya want for nothing?".getBytes(StandardCharsets.ISO_8859_1));
        x.run(10, 1, 0, 28, 0);
        C.dueBytes("RFC 4231, 2", Check.get(x, 0, 32),
                Check.unhex("5bdcc146bf60754e6a042426089575c75a003f089d2739839dec58b964ec3843"));
    }

    private static void statesOfRun() {
        int[] others = {0, 1, 2, 5};
        for (int state : others) {
            for (int service = 0; service <= 12; service++) {
                C.due("service " + service + " in " + state, Check.inState(state).run(service, 0, 0, 48, 0), -1);
            }
        }
        C.due("officer", Check.officer().run(9, 0, 0, 0, 0), 32);
        C.due("user", Check.user().run(9, 0, 0, 0, 0), 32);
    }
}
