/** The term SLOTS, and the promises 12, 13 and 23: slotInfo, zeroise, same. */
public final class SlotsTest {
    private static final Check C = new Check();

    public static void main(String[] args) {
        C.holds("SLOTS 0 .. 15", SlotsTest::sixteenSlots);
        C.holds("are empty or have a KIND (1 AES .. 2 MAC ..)", SlotsTest::kinds);
        C.holds("1 AES of 16 or 32 bytes", SlotsTest::lengthsOfAes);
        C.holds("2 MAC of 1 to 64 bytes", SlotsTest::lengthsOfMac);
        C.holds("USAGE bits (1 seal, 2 open, 4 mac, 8 derive, 16 wrap, 32 export)", SlotsTest::usages);
        C.holds("a ROLE (1, 2)", SlotsTest::roles);
        C.holds("USES left (0 .. 1,000,000", SlotsTest::uses);
        C.holds("-1 without a limit", SlotsTest::usesWithoutLimit);
        C.holds("Promise 12: Of a slot 0 its kind, 1 how many bytes, 2 usage, 3 role, 4 uses left (-1 without a limit)",
                SlotsTest::slotInfo);
        C.holds("Promise 12: -1 when it is empty.", SlotsTest::slotInfoOfEmpty);
        C.holds("Promise 12: IllegalArgumentException: there is no such slot or what.", SlotsTest::slotInfoOfNone);
        C.holds("Promise 13: A slot is empty again: 0", SlotsTest::zeroise);
        C.holds("Promise 13: or a refusal.", SlotsTest::zeroiseRefusals);
        C.holds("Promise 23: whether the key of a slot is the n bytes at the buffer's beginning", SlotsTest::same);
        C.holds("Promise 23: Test-side (in each state)", SlotsTest::sameInEachState);
        C.holds("Promise 23: false for an empty slot", SlotsTest::sameOfEmpty);
        C.holds("Promise 23: or an n that is not its length.", SlotsTest::sameOfOtherLength);
        C.holds("Promise 23: IllegalArgumentException: there is no such slot.", SlotsTest::sameOfNone);
        C.finish();
    }

    private static void sixteenSlots() {
        Counted x = Check.officer();
        for (int slot = 0; slot < 16; slot++) {
            C.due("load to " + slot, x.load(slot, 2, 0, 1, slot, 1 + slot), 0);
        }
        for (int slot = 0; slot < 16; slot++) {
            C.due("length of " + slot, x.slotInfo(slot, 1), 1 + slot);
            C.due("uses of " + slot, x.slotInfo(slot, 4), slot);
        }
        C.due("load to -1", x.load(-1, 2, 0, 1, 0, 1), -2);
        C.due("load to 16", x.load(16, 2, 0, 1, 0, 1), -2);
    }

    private static void kinds() {
        Counted x = Check.officer();
        C.due("AES", x.load(0, 1, 63, 1, -1, 16), 0);
        C.due("MAC", x.load(1, 2, 63, 1, -1, 16), 0);
        int[] wrong = {0, 3, -1, Check.LOWEST, Check.HIGHEST};
        for (int kind : wrong) {
            C.due("kind " + kind, x.load(2, kind, 63, 1, -1, 16), -2);
        }
        C.due("kind of 0", x.slotInfo(0, 0), 1);
        C.due("kind of 1", x.slotInfo(1, 0), 2);
        C.due("kind of 2", x.slotInfo(2, 0), -1);
    }

    private static void lengthsOfAes() {
        for (int n = 1; n <= 64; n++) {
            Counted x = Check.officer();
            boolean right = n == 16 || n == 32;
            C.due("AES of " + n, x.load(0, 1, 63, 1, -1, n), right ? 0 : -5);
            C.due("its length", x.slotInfo(0, 1), right ? n : -1);
        }
    }

    private static void lengthsOfMac() {
        for (int n = 1; n <= 64; n++) {
            Counted x = Check.officer();
            C.due("MAC of " + n, x.load(0, 2, 63, 1, -1, n), 0);
            C.due("its length", x.slotInfo(0, 1), n);
        }
        C.due("MAC of 0", Check.officer().load(0, 2, 63, 1, -1, 0), -2);
        C.due("MAC of 65", Check.officer().load(0, 2, 63, 1, -1, 65), -2);
    }

    private static void usages() {
        Counted x = Check.officer();
        for (int usage = 0; usage <= 63; usage++) {
            C.due("usage " + usage, x.load(0, 2, usage, 1, -1, 16), 0);
            C.due("its usage", x.slotInfo(0, 2), usage);
            x.zeroise(0);
        }
        C.due("usage 64", x.load(0, 2, 64, 1, -1, 16), -2);
        C.due("usage -1", x.load(0, 2, -1, 1, -1, 16), -2);
    }

    private static void roles() {
        Counted x = Check.officer();
        int[] roles = {-1, 0, 1, 2, 3};
        for (int role : roles) {
            boolean right = role == 1 || role == 2;
            C.due("role " + role, x.load(5 + role, 2, 63, role, -1, 16), right ? 0 : -2);
            C.due("its role", x.slotInfo(5 + role, 3), right ? role : -1);
        }
    }

    private static void uses() {
        Counted x = Check.officer();
        x.load(0, 2, 4, 1, 0, 16);
        C.due("uses 0", x.run(10, 0, 0, 0, 0), -7);
        C.due("none are left", x.slotInfo(0, 4), 0);
        x.load(1, 2, 4, 1, 2, 16);
        C.due("the first of two", x.run(10, 1, 0, 0, 0), 32);
        C.due("one is left", x.slotInfo(1, 4), 1);
        C.due("the second of two", x.run(10, 1, 0, 0, 0), 32);
        C.due("none are left", x.slotInfo(1, 4), 0);
        C.due("no third", x.run(10, 1, 0, 0, 0), -7);
        C.due("never less than none", x.slotInfo(1, 4), 0);
        C.due("uses 1000000", x.load(2, 2, 4, 1, 1000000, 16), 0);
        x.run(10, 2, 0, 0, 0);
        C.due("one is taken", x.slotInfo(2, 4), 999999);
        C.due("uses 1000001", x.load(3, 2, 4, 1, 1000001, 16), -2);
    }

    private static void usesWithoutLimit() {
        Counted x = Check.officer();
        C.due("uses -1", x.load(0, 2, 4, 1, -1, 16), 0);
        for (int i = 0; i < 100; i++) {
            C.due("a use", x.run(10, 0, 0, 0, 0), 32);
        }
        C.due("without a limit", x.slotInfo(0, 4), -1);
        C.due("uses -2", x.load(1, 2, 4, 1, -2, 16), -2);
    }

    private static void slotInfo() {
        Counted x = Check.officer();
        x.load(0, 1, 21, 1, -1, 32);
        x.load(15, 2, 42, 2, 1000000, 33);
        int[] first = {1, 32, 21, 1, -1};
        int[] last = {2, 33, 42, 2, 1000000};
        for (int state = 0; state <= 5; state++) {
            Check.bring(x, state);
            for (int what = 0; what <= 4; what++) {
                C.due("slot 0, " + what, x.slotInfo(0, what), first[what]);
                C.due("slot 15, " + what, x.slotInfo(15, what), last[what]);
            }
        }
        int counted = x.counter(0) + x.counter(1);
        x.slotInfo(0, 0);
        C.due("not counted", x.counter(0) + x.counter(1), counted);
    }

    private static void slotInfoOfEmpty() {
        Counted x = Check.officer();
        x.load(1, 2, 42, 2, 9, 33);
        x.load(2, 2, 42, 1, 9, 33);
        x.zeroise(2);
        for (int what = 0; what <= 4; what++) {
            C.due("never filled, " + what, x.slotInfo(0, what), -1);
            C.due("emptied, " + what, x.slotInfo(2, what), -1);
        }
    }

    private static void slotInfoOfNone() {
        int[] slots = {-1, 16, Check.LOWEST, Check.HIGHEST};
        int[] whats = {-1, 5, Check.LOWEST, Check.HIGHEST};
        for (int state = 0; state <= 5; state++) {
            Counted x = Check.officer();
            x.load(0, 2, 42, 1, 9, 33);
            Check.bring(x, state);
            for (int slot : slots) {
                C.illegalArgument("slot " + slot, () -> x.slotInfo(slot, 0));
            }
            for (int what : whats) {
                C.illegalArgument("what " + what, () -> x.slotInfo(0, what));
                C.illegalArgument("what " + what + " of an empty one", () -> x.slotInfo(1, what));
            }
        }
    }

    private static void zeroise() {
        for (int slot = 0; slot < 16; slot++) {
            Counted x = Check.officer();
            Check.put(x, 0, Check.bytes(32, 7));
            for (int other = 0; other < 16; other++) {
                x.load(other, 2, 63, 1, 0, 32);
            }
            C.due("zeroise " + slot, x.zeroise(slot), 0);
            for (int other = 0; other < 16; other++) {
                C.due("kind of " + other, x.slotInfo(other, 0), other == slot ? -1 : 2);
            }
            C.due("its key", x.same(slot, 32), false);
            C.due("it can be filled again", x.load(slot, 1, 1, 2, 1, 16), 0);
            C.due("its uses", x.slotInfo(slot, 4), 1);
        }
    }

    private static void zeroiseRefusals() {
        Counted x = Check.officer();
        x.load(0, 2, 63, 1, -1, 5);
        x.load(1, 2, 63, 2, -1, 5);
        int[] wrong = {-1, 16, Check.LOWEST, Check.HIGHEST};
        for (int slot : wrong) {
            C.due("slot " + slot, x.zeroise(slot), -2);
        }
        C.due("the user's", x.zeroise(1), -3);
        C.due("empty", x.zeroise(2), -4);
        Check.change(x, 2);
        C.due("the officer's", x.zeroise(0), -3);
        C.due("the user's own", x.zeroise(1), 0);
        C.due("empty now", x.zeroise(1), -4);
        int[] others = {2, 1, 5, 0};
        for (int state : others) {
            Check.bring(x, state);
            C.due("own in " + state, x.zeroise(0), -1);
            C.due("no slot in " + state, x.zeroise(16), -1);
        }
        C.due("the officer's stays", x.slotInfo(0, 1), 5);
    }

    private static void same() {
        int[] lengths = {1, 16, 32, 63, 64};
        for (int n : lengths) {
            Counted x = Check.officer();
            byte[] key = Check.bytes(n, n);
            Check.put(x, 100, key);
            C.due("before the key stands there", x.load(0, 2, 0, 2, 0, n), 0);
            C.due("zeros", x.same(0, n), true);
            Check.put(x, 0, key);
            C.due("other bytes", x.same(0, n), false);
            x.load(1, 2, 0, 1, 0, n);
            C.due("its bytes", x.same(1, n), true);
            x.poke(n, 0xff, 1);
            C.due("what stands behind them", x.same(1, n), true);
            for (int i = 0; i < n; i++) {
                x.poke(i, key[i] ^ 1 << i % 8, 1);
                C.due("byte " + i + " of " + n, x.same(1, n), false);
                x.poke(i, key[i], 1);
            }
            C.due("its bytes again", x.same(1, n), true);
            C.due("not counted", x.counter(0) + x.counter(1), 3);
        }
    }

    private static void sameInEachState() {
        for (int state = 0; state <= 5; state++) {
            Counted x = Check.officer();
            x.load(0, 2, 0, 1, 0, 20);
            x.load(1, 2, 0, 2, 0, 20);
            Check.bring(x, state);
            C.due("same in " + state, x.same(0, 20) && x.same(1, 20), true);
        }
        Counted x = Check.officer();
        x.poke(0, 9, 1);
        x.load(0, 2, 0, 1, 0, 1);
        x.power(false);
        C.due("off leaves the buffer", x.same(0, 1), true);
        x.power(true);
        C.due("power(true) does not", x.same(0, 1), false);
    }

    private static void sameOfEmpty() {
        Counted x = Check.officer();
        int[] lengths = {0, 1, 16, 64};
        for (int n : lengths) {
            C.due("never filled", x.same(0, n), false);
        }
        x.load(1, 2, 0, 1, 0, 16);
        x.zeroise(1);
        for (int n : lengths) {
            C.due("emptied", x.same(1, n), false);
        }
    }

    private static void sameOfOtherLength() {
        Counted x = Check.officer();
        x.load(0, 2, 0, 1, 0, 64);
        x.load(1, 2, 0, 1, 0, 1);
        int[] wrong = {0, 2, 63, 65, 512, 513, -1, -64, Check.LOWEST, Check.HIGHEST};
        for (int n : wrong) {
            C.due("n " + n + " of 64", x.same(0, n), false);
            C.due("n " + n + " of 1", x.same(1, n), false);
        }
    }

    private static void sameOfNone() {
        int[] wrong = {-1, 16, Check.LOWEST, Check.HIGHEST};
        for (int state = 0; state <= 5; state++) {
            Counted x = Check.inState(state);
            for (int slot : wrong) {
                C.illegalArgument("slot " + slot, () -> x.same(slot, 1));
                C.illegalArgument("slot " + slot + ", n -1", () -> x.same(slot, -1));
            }
        }
    }
}
