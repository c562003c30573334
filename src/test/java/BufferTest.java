/** The term THE BUFFER, and the promises 5 and 6: poke and peek. */
public final class BufferTest {
    private static final Check C = new Check();

    public static void main(String[] args) {
        C.holds("THE BUFFER has 512 bytes.", BufferTest::eachPlace);
        C.holds("Promise 5: n bytes (1 .. 8; the lowest n, the highest of these first)", BufferTest::lowestBytes);
        C.holds("Promise 5: go into the buffer from place i on.", BufferTest::fromPlaceOn);
        C.holds("Promise 5: IllegalArgumentException: n .. is not so", BufferTest::pokeOfWrongSize);
        C.holds("Promise 5: IllegalArgumentException: .. a place is not so", BufferTest::pokeAtWrongPlace);
        C.holds("Promise 5: IllegalStateException: it is off", BufferTest::pokeInEachState);
        C.holds("Promise 5: it is off (this first).", BufferTest::pokeWhileOffFirst);
        C.holds("Promise 6: Eight bytes of the buffer from place i on, the first one highest", BufferTest::eightBytes);
        C.holds("Promise 6: 0 when neither officer nor user is logged in.", BufferTest::peekInEachState);
        C.holds("Promise 6: IllegalArgumentException: they are not all there", BufferTest::peekAtWrongPlace);
        C.holds("Promise 6: they are not all there (this first).", BufferTest::peekAtWrongPlaceInEachState);
        C.finish();
    }

    private static void eachPlace() {
        Counted x = Check.officer();
        byte[] bytes = Check.bytes(512, 3);
        Check.put(x, 0, bytes);
        C.dueBytes("all places", Check.get(x, 0, 512), bytes);
        x.poke(0, 0x5a, 1);
        x.poke(511, 0xa5, 1);
        bytes[0] = 0x5a;
        bytes[511] = (byte) 0xa5;
        C.dueBytes("the first and the last", Check.get(x, 0, 512), bytes);
        C.illegalArgument("place 512", () -> x.poke(512, 1, 1));
        C.illegalArgument("place -1", () -> x.poke(-1, 1, 1));
        C.dueBytes("the places stay", Check.get(x, 0, 512), bytes);
    }

    private static void lowestBytes() {
        long bytes = 0x81e2c3a4f5968778L;
        for (int n = 1; n <= 8; n++) {
            Counted x = Check.officer();
            x.poke(8, bytes, n);
            C.due("poke of " + n, x.peek(8), bytes << 8 * (8 - n));
        }
    }

    private static void fromPlaceOn() {
        for (int n = 1; n <= 8; n++) {
            Counted x = Check.user();
            for (int at = 0; at < 512; at += 8) {
                x.poke(at, -1, 8);
            }
            byte[] before = Check.get(x, 0, 512);
            x.poke(0, 0, n);
            C.dueBuffer("the first " + n, x, before, 0, new byte[n]);
            x.poke(512 - n, 0, n);
            byte[] first = before.clone();
            System.arraycopy(new byte[n], 0, first, 0, n);
            C.dueBuffer("the last " + n, x, first, 512 - n, new byte[n]);
        }
    }

    private static void pokeOfWrongSize() {
        int[] wrong = {0, -1, 9, 16, Check.LOWEST, Check.HIGHEST};
        Counted x = Check.officer();
        for (int n : wrong) {
            C.illegalArgument("n " + n, () -> x.poke(8, -1, n));
        }
        C.dueBytes("nothing was written", Check.get(x, 0, 512), new byte[512]);
    }

    private static void pokeAtWrongPlace() {
        Counted x = Check.officer();
        for (int n = 1; n <= 8; n++) {
            int[] wrong = {-1, -n, 513 - n, 512, Check.LOWEST, Check.HIGHEST, Check.HIGHEST - n + 1};
            for (int i : wrong) {
                int size = n;
                C.illegalArgument("i " + i + ", n " + n, () -> x.poke(i, -1, size));
            }
        }
        C.dueBytes("nothing was written", Check.get(x, 0, 512), new byte[512]);
    }

    private static void pokeInEachState() {
        Counted off = new Counted();
        C.illegalState("off", () -> off.poke(0, 1, 1));
        Counted off2 = Check.officer();
        off2.power(false);
        C.illegalState("off again", () -> off2.poke(0, 1, 1));
        for (int state = 1; state <= 5; state++) {
            Counted x = Check.inState(state);
            x.poke(0, 1, 1);
            C.due("the state stays", x.state(), state);
        }
        Counted x = Check.testing();
        x.poke(0, 0x61, 1);
        x.selfTestStep(10);
        x.poke(1, 0x62, 1);
        x.login(2, 2222);
        C.due("what came in testing and ready", x.peek(0), 0x6162000000000000L);
    }

    private static void pokeWhileOffFirst() {
        Counted x = new Counted();
        C.illegalState("n 0", () -> x.poke(0, 1, 0));
        C.illegalState("n 9", () -> x.poke(0, 1, 9));
        C.illegalState("i -1", () -> x.poke(-1, 1, 1));
        C.illegalState("i 512", () -> x.poke(512, 1, 1));
    }

    private static void eightBytes() {
        Counted x = Check.officer();
        byte[] bytes = Check.bytes(512, 4);
        Check.put(x, 0, bytes);
        int[] places = {0, 1, 7, 8, 255, 503, 504};
        for (int i : places) {
            long want = 0;
            for (int k = 0; k < 8; k++) {
                want = want * 256 + (bytes[i + k] & 255);
            }
            C.due("peek at " + i, x.peek(i), want);
        }
    }

    private static void peekInEachState() {
        for (int state = 1; state <= 5; state++) {
            Counted x = Check.inState(state);
            x.poke(0, 5, 8);
            C.due("peek in " + state, x.peek(0), state == 3 || state == 4 ? 5 : 0);
        }
        Counted x = Check.officer();
        x.poke(0, 5, 8);
        x.logout();
        C.due("ready", x.peek(0), 0);
        x.login(2, 2222);
        C.due("user", x.peek(0), 5);
        x.power(false);
        C.due("off", x.peek(0), 0);
    }

    private static void peekAtWrongPlace() {
        Counted x = Check.user();
        C.due("i 504", x.peek(504), 0);
        int[] wrong = {-1, -8, 505, 511, 512, Check.LOWEST, Check.HIGHEST, Check.HIGHEST - 7};
        for (int i : wrong) {
            C.illegalArgument("i " + i, () -> x.peek(i));
        }
    }

    private static void peekAtWrongPlaceInEachState() {
        for (int state = 0; state <= 5; state++) {
            Counted x = Check.inState(state);
            C.illegalArgument("i 505 in " + state, () -> x.peek(505));
            C.illegalArgument("i -1 in " + state, () -> x.peek(-1));
        }
    }
}
