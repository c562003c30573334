/** Promises 5 and 6: poke and peek. */
public final class BufferTest {
    private static final Check C = new Check();

    public static void main(String[] args) {
        lowestBytesGoHighestFirst();
        pokeEdges();
        pokeStates();
        peekEdges();
        peekStates();
        C.finish();
    }

    private static void lowestBytesGoHighestFirst() {
        SealedModule x = Check.officer();
        for (int n = 1; n <= 8; n++) {
            x.poke(8, 0, 8);
            x.poke(16, 0, 8);
            x.poke(8, 0x8122334455667788L, n);
            long want = 0x8122334455667788L << 8 * (8 - n);
            C.due("poke of " + n, x.peek(8), want);
            C.due("behind it", x.peek(16), 0);
        }
        x.poke(8, 0x0102030405060708L, 8);
        x.poke(11, 0xffee, 1);
        C.due("one byte in the midst", x.peek(8), 0x010203ee05060708L);
        C.due("peek at odd places", x.peek(9), 0x0203ee0506070800L);
        C.due("poke and peek are not counted", x.counter(0), 1);
    }

    private static void pokeEdges() {
        SealedModule x = Check.officer();
        x.poke(504, 0x0102030405060708L, 8);
        x.poke(511, 9, 1);
        C.due("the last bytes", x.peek(504), 0x0102030405060709L);
        C.illegalArgument("n 0", () -> x.poke(0, 1, 0));
        C.illegalArgument("n 9", () -> x.poke(0, 1, 9));
        C.illegalArgument("n -1", () -> x.poke(0, 1, -1));
        C.illegalArgument("n lowest", () -> x.poke(0, 1, Integer.MIN_VALUE));
        C.illegalArgument("i -1", () -> x.poke(-1, 1, 8));
        C.illegalArgument("i 505", () -> x.poke(505, 1, 8));
        C.illegalArgument("i 512", () -> x.poke(512, 1, 1));
        C.illegalArgument("i highest", () -> x.poke(Integer.MAX_VALUE, 1, 8));
        C.illegalArgument("i lowest", () -> x.poke(Integer.MIN_VALUE, 1, 8));
        C.due("nothing was written", x.peek(0), 0);
        C.due("nothing was written", x.peek(504), 0x0102030405060709L);
    }

    private static void pokeStates() {
        SealedModule x = new SealedModule();
        C.illegalState("off", () -> x.poke(0, 1, 1));
        C.illegalState("off comes first", () -> x.poke(-1, 1, 0));
        x.power(true);
        x.poke(0, 0x61, 1);
        x.selfTestStep(10);
        x.poke(1, 0x62, 1);
        x.login(2, 2222);
        C.due("poke in testing and ready", x.peek(0), 0x6162000000000000L);
        Check.inError().poke(0, 1, 1);
    }

    private static void peekEdges() {
        SealedModule x = Check.user();
        C.due("i 504", x.peek(504), 0);
        C.illegalArgument("i 505", () -> x.peek(505));
        C.illegalArgument("i -1", () -> x.peek(-1));
        C.illegalArgument("i highest", () -> x.peek(Integer.MAX_VALUE));
        C.illegalArgument("i lowest", () -> x.peek(Integer.MIN_VALUE));
        C.illegalArgument("off, and this first", () -> new SealedModule().peek(505));
    }

    private static void peekStates() {
        SealedModule x = Check.officer();
        x.poke(0, 5, 8);
        C.due("officer", x.peek(0), 5);
        x.logout();
        C.due("ready", x.peek(0), 0);
        x.login(2, 2222);
        C.due("user", x.peek(0), 5);
        x.power(false);
        C.due("off", x.peek(0), 0);
        x.power(true);
        x.poke(0, 5, 8);
        C.due("testing", x.peek(0), 0);
        x.fault(0);
        x.selfTestStep(1);
        C.due("error", x.peek(0), 0);
    }
}
