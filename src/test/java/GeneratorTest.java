import java.util.Arrays;

/** The term THE GENERATOR, with what run 11 and make() of the promises 16 and 20 ask of it. */
public final class GeneratorTest {
    private static final Check C = new Check();
    private static final byte[] NONE = new byte[0];

    public static void main(String[] args) {
        C.holds("HMAC_DRBG with SHA-256 of SP 800-90A, without a text of its own", GeneratorTest::answers);
        C.holds("made when it is needed first", GeneratorTest::madeWhenNeeded);
        C.holds("of the first 12 WORDS of entropy not used", GeneratorTest::twelveWords);
        C.holds("(four bytes each, the highest first: 32 bytes of entropy, 16 of nonce)", GeneratorTest::bytesOfWords);
        C.holds("with 64 requests since it was made .. it is seeded again", GeneratorTest::sixtyFourRequests);
        C.holds("with 64 requests since it was .. seeded, it is seeded again", GeneratorTest::sixtyFourMore);
        C.holds("of 8 words, before the next one.", GeneratorTest::eightWords);
        C.holds("Each request is one of run 11 or make().", GeneratorTest::bothAreRequests);
        C.holds("-8 the generator has not enough entropy", GeneratorTest::notEnough);
        C.holds("or is not healthy", GeneratorTest::notHealthy);
        C.holds("11 the generator: n bytes (0 .. 256) to the place", GeneratorTest::lengths);
        C.holds("(slot not looked at)", GeneratorTest::slot);
        C.holds("m bytes (0 .. 64) at the buffer's beginning are additional input.", GeneratorTest::additionalInput);
        C.holds("m bytes (0 .. 64): no others", GeneratorTest::wrongInput);
        C.holds("make(): from the generator.", GeneratorTest::keyOfGenerator);
        C.holds("Promise 16: Makes a key of n bytes: 0", GeneratorTest::make);
        C.holds("Promise 16: or a refusal.", GeneratorTest::makeRefusals);
        C.finish();
    }

    private static Counted withWords(int count) {
        Counted x = Check.officer();
        Check.feed(x, 0, count);
        return x;
    }

    private static Reference.Drbg drbg() {
        return new Reference.Drbg(Check.wordBytes(0, 12));
    }

    private static void ask(Counted x, Reference.Drbg drbg, int requests) {
        for (int i = 0; i < requests; i++) {
            C.due("request " + i, x.run(11, 0, 0, 0, 0), 0);
            drbg.next(0, NONE);
        }
    }

    private static void dueNext(String what, Counted x, Reference.Drbg drbg) {
        C.due(what, x.run(11, 0, 100, 40, 0), 40);
        C.dueBytes(what, Check.get(x, 100, 40), drbg.next(40, NONE));
    }

    private static void answers() {
        Counted x = withWords(12);
        Reference.Drbg drbg = drbg();
        for (int i = 0; i < 20; i++) {
            dueNext("request " + i, x, drbg);
        }
    }

    private static void madeWhenNeeded() {
        Counted x = withWords(12);
        Check.feed(x, 12, 52);
        Check.change(x, 2);
        Reference.Drbg drbg = drbg();
        dueNext("of the first words, however late", x, drbg);
        Check.change(x, 1);
        dueNext("the same one for both roles", x, drbg);
    }

    private static void twelveWords() {
        for (int count = 0; count <= 11; count++) {
            C.due("run with " + count, withWords(count).run(11, 0, 0, 8, 0), -8);
            C.due("make with " + count, withWords(count).make(0, 2, 0, 1, 0, 8), -8);
        }
        Counted x = withWords(11);
        C.due("refused", x.run(11, 0, 0, 8, 0), -8);
        Check.feed(x, 11, 1);
        dueNext("a refusal uses no words", x, drbg());
        Counted y = withWords(19);
        Reference.Drbg drbg = drbg();
        ask(y, drbg, 64);
        C.due("twelve of nineteen were used", y.run(11, 0, 0, 0, 0), -8);
        Check.feed(y, 19, 1);
        drbg.seed(Check.wordBytes(12, 8));
        dueNext("the eight behind them", y, drbg);
    }

    private static void bytesOfWords() {
        Counted x = Check.officer();
        byte[] seed = new byte[48];
        for (int i = 0; i < 12; i++) {
            x.entropy(0x01020304 + 0x04040404 * i);
        }
        for (int i = 0; i < 48; i++) {
            seed[i] = (byte) (i + 1);
        }
        dueNext("bytes 1 to 48", x, new Reference.Drbg(seed));
        Counted y = Check.officer();
        for (int i = 0; i < 12; i++) {
            y.entropy(0xfffefdfc - 0x04040404 * i);
            for (int k = 0; k < 4; k++) {
                seed[4 * i + k] = (byte) (255 - 4 * i - k);
            }
        }
        dueNext("bytes 255 down", y, new Reference.Drbg(seed));
    }

    private static void sixtyFourRequests() {
        Counted x = withWords(12);
        Reference.Drbg drbg = drbg();
        ask(x, drbg, 63);
        dueNext("the 64th needs no words", x, drbg);
        C.due("the 65th does", x.run(11, 0, 0, 0, 0), -8);
        Counted y = withWords(20);
        Reference.Drbg other = drbg();
        ask(y, other, 63);
        dueNext("the 64th uses none that are there", y, other);
        other.seed(Check.wordBytes(12, 8));
        dueNext("the 65th does", y, other);
    }

    private static void sixtyFourMore() {
        Counted x = withWords(28);
        Reference.Drbg drbg = drbg();
        ask(x, drbg, 64);
        drbg.seed(Check.wordBytes(12, 8));
        ask(x, drbg, 63);
        dueNext("the 64th since it was seeded", x, drbg);
        drbg.seed(Check.wordBytes(20, 8));
        dueNext("the 65th is seeded again", x, drbg);
        ask(x, drbg, 63);
        C.due("and once more", x.run(11, 0, 0, 0, 0), -8);
    }

    private static void eightWords() {
        Counted x = withWords(12);
        Reference.Drbg drbg = drbg();
        ask(x, drbg, 64);
        for (int i = 0; i < 8; i++) {
            C.due("run with " + i, x.run(11, 0, 0, 0, 0), -8);
            C.due("make with " + i, x.make(0, 2, 0, 1, 0, 1), -8);
            Check.feed(x, 12 + i, 1);
        }
        drbg.seed(Check.wordBytes(12, 8));
        Check.put(x, 0, Check.bytes(5, 1));
        C.due("with eight", x.run(11, 0, 8, 40, 5), 40);
        C.dueBytes("seeded of the words alone, then asked", Check.get(x, 8, 40), drbg.next(40, Check.bytes(5, 1)));
    }

    private static void bothAreRequests() {
        Counted x = withWords(12);
        Reference.Drbg drbg = drbg();
        for (int i = 0; i < 32; i++) {
            C.due("make", x.make(0, 2, 0, 1, 0, 8), 0);
            x.zeroise(0);
            drbg.next(8, NONE);
            ask(x, drbg, 1);
        }
        C.due("run", x.run(11, 0, 0, 0, 0), -8);
        C.due("make", x.make(0, 2, 0, 1, 0, 8), -8);
        Counted y = withWords(12);
        Reference.Drbg other = drbg();
        ask(y, other, 63);
        C.due("a refused run", y.run(11, 0, 0, 257, 0), -2);
        C.due("a refused make", y.make(0, 1, 0, 1, 0, 17), -5);
        y.run(9, 0, 0, 0, 0);
        y.load(0, 2, 8, 1, -1, 1);
        y.derive(1, 0, 2, 8, 8, 0);
        dueNext("what is no request is not counted", y, other);
    }

    private static void notEnough() {
        Counted x = withWords(0);
        C.due("run", x.run(11, 0, 0, 0, 0), -8);
        C.due("make", x.make(0, 2, 0, 1, 0, 1), -8);
        C.due("the slot stays empty", x.slotInfo(0, 0), -1);
        C.due("refused", x.counter(1), 2);
        C.dueBytes("the buffer stays", Check.get(x, 0, 512), new byte[512]);
    }

    private static void notHealthy() {
        for (int made = 0; made <= 1; made++) {
            Counted x = withWords(64);
            for (int i = 0; i < made; i++) {
                C.due("healthy", x.run(11, 0, 0, 0, 0), 0);
            }
            for (int i = 0; i < 4; i++) {
                x.entropy(5);
            }
            C.due("run", x.run(11, 0, 0, 8, 0), -8);
            C.due("make", x.make(0, 2, 0, 1, 0, 8), -8);
            C.due("no bytes", x.run(11, 0, 0, 0, 0), -8);
        }
    }

    private static void lengths() {
        int[] sizes = {0, 1, 31, 32, 33, 63, 64, 65, 100, 255, 256};
        for (int n : sizes) {
            Counted x = withWords(12);
            byte[] before = Check.bytes(512, n);
            Check.put(x, 0, before);
            Reference.Drbg drbg = drbg();
            C.due("request of " + n, x.run(11, 0, 512 - n, n, 0), n);
            C.dueBuffer("bytes of " + n, x, before, 512 - n, drbg.next(n, NONE));
            dueNext("the one behind it", x, drbg);
        }
        Counted x = withWords(12);
        int[][] wrong = {
            {0, 257}, {0, 512}, {0, -1}, {257, 256}, {512, 1}, {513, 0}, {-1, 0}, {-1, 1}, {0, Check.HIGHEST},
            {0, Check.LOWEST}, {Check.HIGHEST, 1}, {Check.LOWEST, 1},
        };
        for (int[] r : wrong) {
            C.due("request " + Arrays.toString(r), x.run(11, 0, r[0], r[1], 0), -2);
        }
        C.due("at the last place", x.run(11, 0, 256, 256, 0), 256);
    }

    private static void slot() {
        Counted x = withWords(12);
        x.load(0, 1, 0, 2, 0, 16);
        x.load(1, 1, 63, 1, 5, 16);
        int[] slots = {-1, 0, 1, 2, 16, Check.LOWEST, Check.HIGHEST};
        for (int slot : slots) {
            C.due("slot " + slot, x.run(11, slot, 0, 8, 0), 8);
        }
        C.due("no use is taken", x.slotInfo(1, 4), 5);
    }

    private static void additionalInput() {
        for (int m = 0; m <= 64; m++) {
            Counted x = withWords(12);
            byte[] before = Check.bytes(512, m);
            Check.put(x, 0, before);
            Reference.Drbg drbg = drbg();
            byte[] input = Arrays.copyOf(before, m);
            C.due("with " + m, x.run(11, 0, 0, 70, m), 70);
            byte[] first = drbg.next(70, input);
            C.dueBuffer("over its own input, with " + m, x, before, 0, first);
            C.due("again with " + m, x.run(11, 0, 200, 70, m), 70);
            C.dueBytes("again with " + m, Check.get(x, 200, 70), drbg.next(70, Arrays.copyOf(first, m)));
            C.dueBytes("the input stays", Check.get(x, 0, 70), first);
        }
    }

    private static void wrongInput() {
        int[] wrong = {-1, 65, Check.LOWEST, Check.HIGHEST};
        for (int m : wrong) {
            Counted x = withWords(12);
            C.due("m " + m, x.run(11, 0, 0, 8, m), -2);
            C.due("m " + m + " with no bytes", x.run(11, 0, 0, 0, m), -2);
        }
        C.due("m 64 with no bytes", withWords(12).run(11, 0, 0, 0, 64), 0);
    }

    private static void keyOfGenerator() {
        Counted x = withWords(12);
        Reference.Drbg drbg = drbg();
        Check.put(x, 0, Check.bytes(64, 5));
        for (int slot = 0; slot < 3; slot++) {
            C.due("make", x.make(slot, 2, 0, 1, 0, 64), 0);
        }
        C.due("the buffer is no part of it", x.same(0, 64), false);
        for (int slot = 0; slot < 3; slot++) {
            Check.put(x, 0, drbg.next(64, NONE));
            C.due("key " + slot, x.same(slot, 64), true);
        }
        dueNext("the request behind them", x, drbg);
    }

    private static void make() {
        int[] sizes = {1, 8, 16, 31, 32, 33, 64};
        for (int n : sizes) {
            Counted x = withWords(12);
            byte[] before = Check.bytes(512, n);
            Check.put(x, 0, before);
            Reference.Drbg drbg = drbg();
            int kind = n == 16 || n == 32 ? 1 : 2;
            C.due("make of " + n, x.make(9, kind, 41, 2, 17, n), 0);
            C.dueBytes("the buffer stays", Check.get(x, 0, 512), before);
            int[] want = {kind, n, 41, 2, 17};
            for (int what = 0; what < 5; what++) {
                C.due("slot info " + what, x.slotInfo(9, what), want[what]);
            }
            Check.put(x, 0, drbg.next(n, NONE));
            C.due("its key", x.same(9, n), true);
            dueNext("the request behind it", x, drbg);
        }
    }

    private static void makeRefusals() {
        Counted x = withWords(12);
        x.load(0, 2, 0, 2, 0, 1);
        C.due("state", Check.ready().make(1, 2, 0, 1, 0, 1), -1);
        C.due("number", x.make(16, 2, 0, 1, 0, 1), -2);
        C.due("number", x.make(1, 2, 0, 1, 0, 65), -2);
        C.due("not empty", x.make(0, 2, 0, 1, 0, 1), -4);
        C.due("length", x.make(1, 1, 0, 1, 0, 33), -5);
        Check.change(x, 2);
        C.due("user", x.make(1, 2, 0, 2, 0, 1), -3);
        C.due("the slot stays empty", x.slotInfo(1, 0), -1);
        dueNext("refusals are no requests", x, drbg());
    }
}
