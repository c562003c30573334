/** The term ENTROPY, and promise 10: entropy. */
public final class EntropyTest {
    private static final Check C = new Check();
    private static final byte[] NONE = new byte[0];

    public static void main(String[] args) {
        C.holds("a word is accepted (1) while it is healthy", EntropyTest::accepted);
        C.holds("at most 64 that were not used are kept", EntropyTest::sixtyFourAreKept);
        C.holds("(more are accepted, not kept)", EntropyTest::moreAreNotKept);
        C.holds("not healthy .. as soon as a word comes the fourth time in a row", EntropyTest::fourthInRow);
        C.holds("in a row: over the ends of windows", EntropyTest::rowOverWindows);
        C.holds("the first word of a WINDOW .. the sixth time in it", EntropyTest::sixthInWindow);
        C.holds("the first word of a WINDOW: no other word", EntropyTest::otherWordsOfWindow);
        C.holds("(of 16 words, one after the other)", EntropyTest::windowsFollow);
        C.holds("(0, for all from then on)", EntropyTest::forAllFromThenOn);
        C.holds("that word is not accepted.", EntropyTest::thatWordIsNotAccepted);
        C.holds("Forgotten while off.", EntropyTest::forgottenWhileOff);
        C.holds("Promise 10: A word of entropy: 1 accepted, 0 not healthy.", EntropyTest::anyWord);
        C.holds("Promise 10: IllegalStateException: it is off.", EntropyTest::states);
        C.finish();
    }

    private static void accepted() {
        Counted x = Check.ready();
        for (int i = 0; i < 400; i++) {
            C.due("word " + i, x.entropy(Check.word(i)), 1);
        }
    }

    private static void ask(Counted x, Reference.Drbg drbg, int requests) {
        for (int i = 0; i < requests; i++) {
            C.due("request", x.run(11, 0, 0, 0, 0), 0);
            drbg.next(0, NONE);
        }
    }

    /** Uses up all words that are kept; the 64th of them is reached by more calls than are promised. */
    private static void dueKept(int more) {
        Counted x = new Counted(700);
        Check.bring(x, 3);
        Check.feed(x, 0, 64 + more);
        Reference.Drbg drbg = new Reference.Drbg(Check.wordBytes(0, 12));
        ask(x, drbg, 64);
        Check.feed(x, 200, 4);
        for (int seeding = 0; seeding < 7; seeding++) {
            byte[] last = Check.join(Check.wordBytes(60, 4), Check.wordBytes(200, 4));
            drbg.seed(seeding < 6 ? Check.wordBytes(12 + 8 * seeding, 8) : last);
            C.due("seeding " + seeding, x.run(11, 0, 0, 32, 0), 32);
            C.dueBytes("words of seeding " + seeding + ", " + more + " more", Check.get(x, 0, 32), drbg.next(32, NONE));
            ask(x, drbg, 63);
        }
        C.due("no words are left", x.run(11, 0, 0, 0, 0), -8);
    }

    private static void sixtyFourAreKept() {
        dueKept(0);
    }

    private static void moreAreNotKept() {
        Counted x = Check.ready();
        for (int i = 0; i < 200; i++) {
            C.due("word " + i + " is accepted", x.entropy(Check.word(i)), 1);
        }
        dueKept(1);
        dueKept(36);
    }

    private static void fourthInRow() {
        int[] words = {0, 1, -1, Check.LOWEST, Check.HIGHEST};
        for (int word : words) {
            for (int before = 0; before < 13; before++) {
                Counted x = Check.ready();
                Check.feed(x, 50, before);
                for (int i = 0; i < 3; i++) {
                    C.due("time " + i + " behind " + before, x.entropy(word), 1);
                }
                C.due("the fourth time behind " + before, x.entropy(word), 0);
            }
        }
        Counted x = Check.ready();
        Check.feed(x, 50, 1);
        for (int round = 0; round < 4; round++) {
            for (int i = 0; i < 3; i++) {
                C.due("three in a row", x.entropy(9), 1);
            }
            C.due("another between", x.entropy(100 + round), 1);
        }
    }

    private static void rowOverWindows() {
        for (int before = 13; before <= 16; before++) {
            Counted x = Check.ready();
            Check.feed(x, 50, before);
            for (int i = 0; i < 4; i++) {
                C.due("time " + i + " behind " + before, x.entropy(-9), i < 3 ? 1 : 0);
            }
        }
    }

    /** Words of a window whose first one comes again at the places told by bits. */
    private static void window(Counted x, int bits, int last) {
        int times = 0;
        for (int i = 0; i < last; i++) {
            boolean first = (bits >> i & 1) == 1;
            times += first ? 1 : 0;
            C.due("word " + i + " of window " + bits, x.entropy(first ? 3 : 100 + i), times < 6 ? 1 : 0);
            if (times == 6) {
                return;
            }
        }
    }

    private static void sixthInWindow() {
        window(Check.ready(), 0b1001001001001001, 16);
        window(Check.ready(), 0b0000011011011, 13);
        window(Check.ready(), 0b111011011, 9);
        window(Check.ready(), 0b10000000110110101, 16);
        window(Check.ready(), 0b0111000000000011, 16);
        Counted x = Check.ready();
        window(x, 0b0111000000000011, 16);
        window(x, 0b0111000000000011, 16);
        window(x, 0b1001001001001001, 16);
        C.due("behind the sixth time", x.entropy(1), 0);
    }

    private static void otherWordsOfWindow() {
        Counted x = Check.ready();
        x.entropy(1);
        for (int i = 0; i < 15; i++) {
            C.due("not the first word", x.entropy(i % 4 == 3 ? 100 + i : 3), 1);
        }
        Counted y = Check.ready();
        y.entropy(0);
        y.entropy(5);
        for (int i = 0; i < 14; i++) {
            C.due("the second word", y.entropy(i % 2 == 0 ? 200 + i : 5), 1);
        }
    }

    private static void windowsFollow() {
        Counted x = Check.ready();
        for (int i = 0; i < 16; i++) {
            C.due("five times in the first", x.entropy(i % 3 == 0 && i < 15 ? 3 : 100 + i), 1);
        }
        for (int i = 0; i < 16; i++) {
            C.due("its word in the second", x.entropy(i % 2 == 1 ? 3 : 200 + i), 1);
        }
        for (int i = 0; i < 15; i++) {
            C.due("the third has a first word of its own", x.entropy(i % 3 == 0 ? 7 : 300 + i), 1);
        }
        C.due("the sixth time at its last place", x.entropy(7), 0);
        Counted y = Check.ready();
        for (int i = 0; i < 16; i++) {
            C.due("five times, the last at the end", y.entropy(i % 4 == 0 || i == 15 ? 3 : 100 + i), 1);
        }
        C.due("the seventeenth is in the next window", y.entropy(3), 1);
        for (int i = 1; i < 13; i++) {
            C.due("five times from there", y.entropy(i % 3 == 0 ? 3 : 200 + i), 1);
        }
        C.due("and the sixth", y.entropy(3), 0);
    }

    private static void forAllFromThenOn() {
        for (int way = 0; way < 2; way++) {
            Counted x = Check.officer();
            Check.feed(x, 0, 64);
            x.run(11, 0, 0, 0, 0);
            if (way == 0) {
                for (int i = 0; i < 4; i++) {
                    x.entropy(5);
                }
            } else {
                for (int i = 0; i < 16; i++) {
                    x.entropy(i % 3 == 0 ? 5 : 1000 + i);
                }
            }
            for (int i = 0; i < 40; i++) {
                C.due("word " + i, x.entropy(2000 + i), 0);
            }
            C.due("no request, though it is made", x.run(11, 0, 0, 0, 0), -8);
            C.due("no key", x.make(0, 2, 0, 1, 0, 1), -8);
            Check.change(x, 2);
            C.due("nor for the user", x.run(11, 0, 0, 0, 0), -8);
        }
    }

    private static void thatWordIsNotAccepted() {
        Counted x = Check.officer();
        Check.feed(x, 0, 8);
        for (int i = 0; i < 3; i++) {
            C.due("accepted", x.entropy(5), 1);
        }
        C.due("eleven words", x.run(11, 0, 0, 0, 0), -8);
        C.due("that word", x.entropy(5), 0);
        C.due("is none of twelve", x.run(11, 0, 0, 0, 0), -8);
    }

    private static void forgottenWhileOff() {
        Counted x = Check.officer();
        Check.feed(x, 0, 11);
        x.power(false);
        C.illegalState("off", () -> x.entropy(1));
        Check.bring(x, 3);
        Check.feed(x, 11, 11);
        C.due("eleven new words", x.run(11, 0, 0, 0, 0), -8);
        Check.feed(x, 22, 1);
        C.due("the twelfth", x.run(11, 0, 0, 0, 0), 0);
        Counted y = Check.testing();
        for (int i = 0; i < 3; i++) {
            y.entropy(5);
        }
        y.power(false);
        y.power(true);
        for (int i = 0; i < 3; i++) {
            C.due("the row is forgotten", y.entropy(5), 1);
        }
        C.due("and counted anew", y.entropy(5), 0);
        Counted z = Check.testing();
        for (int i = 0; i < 10; i++) {
            z.entropy(i % 2 == 0 ? 3 : 100 + i);
        }
        z.power(false);
        z.power(true);
        for (int i = 0; i < 16; i++) {
            C.due("the window is forgotten", z.entropy(i % 3 == 0 ? 3 : 200 + i), i < 15 ? 1 : 0);
        }
    }

    private static void anyWord() {
        int[] words = {0, 1, -1, Check.LOWEST, Check.HIGHEST};
        Counted x = Check.ready();
        for (int word : words) {
            C.due("word " + word, x.entropy(word), 1);
        }
        for (int i = 0; i < 3; i++) {
            x.entropy(7);
        }
        C.due("not healthy", x.entropy(7), 0);
        C.due("not counted", x.counter(0) + x.counter(1), 0);
    }

    private static void states() {
        Counted off = new Counted();
        C.illegalState("a new object", () -> off.entropy(1));
        Counted again = Check.officer();
        again.power(false);
        C.illegalState("off again", () -> again.entropy(1));
        for (int state = 1; state <= 5; state++) {
            Counted x = Check.inState(state);
            C.due("state " + state, x.entropy(1), 1);
            C.due("the state stays", x.state(), state);
        }
        Counted x = Check.testing();
        Check.feed(x, 0, 6);
        x.selfTestStep(10);
        Check.feed(x, 6, 6);
        x.login(2, 2222);
        C.due("words of testing and ready are kept", x.run(11, 0, 0, 32, 0), 32);
        C.dueBytes("words of testing and ready", Check.get(x, 0, 32), new Reference.Drbg(Check.wordBytes(0, 12)).next(32, NONE));
    }
}
