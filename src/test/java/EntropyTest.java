/** Promise 10 and the generator of 16 and 20: entropy, its health, and requests. */
public final class EntropyTest {
    private static final Check C = new Check();

    public static void main(String[] args) {
        states();
        rowOfFour();
        windowOfSixteen();
        windowsFollowOneAnother();
        wordsBehindTheSixtyFourth();
        requests();
        seedsAgain();
        additionalInput();
        made();
        refusals();
        C.finish();
    }

    private static void states() {
        SealedModule x = new SealedModule();
        C.illegalState("off", () -> x.entropy(1));
        x.power(true);
        C.due("testing", x.entropy(1), 1);
        C.due("ready", Check.ready().entropy(1), 1);
        C.due("user", Check.user().entropy(1), 1);
        C.due("error", Check.inError().entropy(1), 1);
        C.due("not counted", x.counter(0) + x.counter(1), 0);
    }

    private static void rowOfFour() {
        SealedModule x = Check.ready();
        C.due("0 is a word as others", x.entropy(0), 1);
        x.entropy(0);
        C.due("third", x.entropy(0), 1);
        C.due("another", x.entropy(1), 1);
        x.entropy(0);
        x.entropy(0);
        C.due("fifth in the window, third in a row", x.entropy(2), 1);
        SealedModule y = Check.ready();
        Check.feed(y, 0, 14);
        for (int i = 0; i < 3; i++) {
            C.due("a row over the window's end", y.entropy(-9), 1);
        }
        C.due("fourth", y.entropy(-9), 0);
        C.due("for all from then on", y.entropy(1), 0);
    }

    private static void windowOfSixteen() {
        SealedModule x = Check.ready();
        for (int i = 0; i < 15; i++) {
            C.due("word " + i, x.entropy(i % 3 == 0 ? 3 : 100 + i), 1);
        }
        C.due("the sixth time is the sixteenth word", x.entropy(3), 0);
        SealedModule y = Check.ready();
        y.entropy(1);
        for (int i = 0; i < 15; i++) {
            C.due("not the first word", y.entropy(i % 2 == 0 ? 3 : 100 + i), 1);
        }
    }

    private static void windowsFollowOneAnother() {
        SealedModule x = Check.ready();
        Check.feed(x, 0, 11);
        for (int i = 0; i < 5; i++) {
            C.due("at the end of the first window", x.entropy(i % 2 == 0 ? 3 : 4), 1);
        }
        C.due("the second window begins", x.entropy(4), 1);
        for (int i = 0; i < 4; i++) {
            C.due("between", x.entropy(200 + i), 1);
            C.due("again " + i, x.entropy(4), 1);
        }
        C.due("between", x.entropy(300), 1);
        C.due("the sixth time", x.entropy(4), 0);
        SealedModule y = Check.ready();
        for (int i = 0; i < 10; i++) {
            y.entropy(i % 2 == 0 ? 5 : 1000 + i);
        }
        Check.feed(y, 0, 6);
        for (int i = 0; i < 16; i++) {
            C.due("the first window's word in the second", y.entropy(i % 2 == 0 ? 77 + i : 5), 1);
        }
    }

    private static void wordsBehindTheSixtyFourth() {
        SealedModule x = Check.officer();
        Check.feed(x, 0, 64);
        C.due("accepted", x.entropy(Check.word(64)), 1);
        C.due("accepted", x.entropy(Check.word(65)), 1);
        Reference.Drbg drbg = new Reference.Drbg(Check.wordBytes(0, 12));
        C.due("a request", x.run(11, 0, 0, 32, 0), 32);
        C.dueBytes("the first twelve", Check.get(x, 0, 32), drbg.next(32, new byte[0]));
        Check.feed(x, 70, 20);
        for (int round = 0; round < 7; round++) {
            for (int i = drbg.requests; i < 64; i++) {
                x.run(11, 0, 0, 0, 0);
                drbg.next(0, new byte[0]);
            }
            byte[] seed = Check.wordBytes(12 + 8 * round, 8);
            if (round == 6) {
                seed = Check.join(Check.wordBytes(60, 4), Check.wordBytes(70, 4));
            }
            drbg.seed(seed);
            C.due("seeded again", x.run(11, 0, 0, 32, 0), 32);
            C.dueBytes("words of round " + round, Check.get(x, 0, 32), drbg.next(32, new byte[0]));
        }
    }

    private static void requests() {
        SealedModule x = Check.user();
        Check.feed(x, 0, 11);
        C.due("eleven words", x.run(11, 0, 0, 0, 0), -8);
        Check.feed(x, 11, 1);
        Reference.Drbg drbg = new Reference.Drbg(Check.wordBytes(0, 12));
        int[] sizes = {0, 1, 31, 32, 33, 64, 100, 255, 256};
        for (int n : sizes) {
            C.due("request of " + n, x.run(11, -7, 512 - n, n, 0), n);
            C.dueBytes("bytes of " + n, Check.get(x, 512 - n, n), drbg.next(n, new byte[0]));
        }
    }

    private static void seedsAgain() {
        SealedModule x = Check.officer();
        Check.feed(x, 0, 12);
        Reference.Drbg drbg = new Reference.Drbg(Check.wordBytes(0, 12));
        for (int i = 0; i < 64; i++) {
            C.due("request " + i, x.run(11, 0, 0, 16, 0), 16);
            drbg.next(16, new byte[0]);
        }
        C.due("no words", x.run(11, 0, 0, 16, 0), -8);
        C.due("no words for make", x.make(0, 2, 63, 1, -1, 16), -8);
        Check.feed(x, 20, 7);
        C.due("seven words", x.run(11, 0, 0, 16, 0), -8);
        Check.feed(x, 27, 1);
        drbg.seed(Check.wordBytes(20, 8));
        Check.put(x, 0, Check.bytes(5, 1));
        C.due("eight words", x.run(11, 0, 8, 40, 5), 40);
        C.dueBytes("seeded of the words alone", Check.get(x, 8, 40), drbg.next(40, Check.bytes(5, 1)));
    }

    private static void additionalInput() {
        SealedModule x = Check.officer();
        Check.feed(x, 0, 12);
        Reference.Drbg drbg = new Reference.Drbg(Check.wordBytes(0, 12));
        for (int m = 0; m <= 64; m += 16) {
            byte[] input = Check.bytes(m, m);
            Check.put(x, 0, input);
            C.due("answer over its input", x.run(11, 0, 0, 70, m), 70);
            C.dueBytes("with " + m, Check.get(x, 0, 70), drbg.next(70, input));
        }
        C.due("m 65", x.run(11, 0, 0, 8, 65), -2);
        C.due("m -1", x.run(11, 0, 0, 8, -1), -2);
        C.due("n 257", x.run(11, 0, 0, 257, 0), -2);
        C.due("n -1", x.run(11, 0, 0, -1, 0), -2);
        C.due("end behind the buffer", x.run(11, 0, 257, 256, 0), -2);
    }

    private static void made() {
        SealedModule x = Check.officer();
        Check.feed(x, 0, 12);
        Reference.Drbg drbg = new Reference.Drbg(Check.wordBytes(0, 12));
        C.due("make", x.make(4, 1, 7, 1, 3, 32), 0);
        Check.put(x, 0, drbg.next(32, new byte[0]));
        C.due("its key", x.same(4, 32), true);
        C.due("make", x.make(5, 2, 63, 2, -1, 64), 0);
        Check.put(x, 0, drbg.next(64, new byte[0]));
        C.due("its key", x.same(5, 64), true);
        C.due("refused", x.make(6, 1, 7, 1, 3, 31), -5);
        C.due("make of one byte", x.make(6, 2, 0, 1, 0, 1), 0);
        Check.put(x, 0, drbg.next(1, new byte[0]));
        C.due("a refusal is no request", x.same(6, 1), true);
        for (int i = 3; i < 64; i++) {
            x.run(11, 0, 0, 0, 0);
        }
        C.due("make is a request too", x.make(7, 2, 0, 1, 0, 1), -8);
    }

    private static void refusals() {
        SealedModule x = Check.ready();
        Check.feed(x, 0, 12);
        C.due("ready", x.run(11, 0, 0, 8, 0), -1);
        x.login(1, 1111);
        C.due("a request", x.run(11, 0, 0, 8, 0), 8);
        for (int i = 0; i < 4; i++) {
            x.entropy(5);
        }
        C.due("not healthy, run", x.run(11, 0, 0, 8, 0), -8);
        C.due("not healthy, make", x.make(0, 1, 1, 1, 1, 16), -8);
        C.due("not healthy, make, and its length", x.make(0, 1, 1, 1, 1, 17), -5);
        C.due("slot stays empty", x.slotInfo(0, 0), -1);
    }
}
