import java.util.Arrays;

/** The term STREAMS, and promise 21: hash. */
public final class StreamsTest {
    private static final Check C = new Check();

    public static void main(String[] args) {
        C.holds("STREAMS of SHA-256, one for each role", StreamsTest::oneForEachRole);
        C.holds("hash(0, ..) begins (whatever was)", StreamsTest::beginsAnew);
        C.holds("hash(1, at, n) takes n bytes in", StreamsTest::takesBytesIn);
        C.holds("hash(2, at, ..) writes the digest of what was taken in", StreamsTest::writesDigest);
        C.holds("(the stream goes on as it was)", StreamsTest::goesOn);
        C.holds("the same as in one piece", StreamsTest::pieces);
        C.holds("(Refused as run", StreamsTest::refusedAsRun);
        C.holds("Refused as run: the places", StreamsTest::places);
        C.holds("1 and 2 without one begun: -4", StreamsTest::noneBegun);
        C.holds("logout ends the role's stream", StreamsTest::logoutEnds);
        C.holds("Numbers that a step does not need are not looked at.)", StreamsTest::numbersNotNeeded);
        C.holds("Promise 21: A step of the role's stream (0, 1, 2)", StreamsTest::steps);
        C.holds("Promise 21: 0, n, or 32", StreamsTest::answers);
        C.finish();
    }

    private static void oneForEachRole() {
        for (int role = 1; role <= 2; role++) {
            Counted x = Check.inState(2 + role);
            x.hash(0, 0, 0);
            C.due("own", x.hash(1, 0, 1), 1);
            Check.change(x, 3 - role);
            C.due("the other's is not begun", x.hash(1, 0, 1), -4);
            C.due("the other's is not begun", x.hash(2, 0, 0), -4);
            x.hash(0, 0, 0);
            x.hash(2, 0, 0);
            C.dueBytes("nothing of the first one's is in it", Check.get(x, 0, 32), Reference.sha(new byte[0]));
        }
    }

    private static void beginsAnew() {
        int[] taken = {0, 1, 63, 64, 100};
        for (int n : taken) {
            Counted x = Check.officer();
            x.hash(0, 0, 0);
            x.hash(1, 0, n);
            C.due("begins again", x.hash(0, 0, 0), 0);
            x.hash(1, 100, 3);
            x.hash(2, 8, 0);
            C.dueBytes("behind " + n, Check.get(x, 8, 32), Reference.sha(new byte[3]));
        }
    }

    private static void takesBytesIn() {
        int[] sizes = {0, 1, 55, 56, 57, 63, 64, 65, 119, 120, 128, 511, 512};
        byte[] data = Check.bytes(512, 5);
        for (int n : sizes) {
            Counted x = Check.user();
            Check.put(x, 0, data);
            x.hash(0, 0, 0);
            C.due("take of " + n, x.hash(1, 512 - n, n), n);
            C.dueBytes("the buffer stays", Check.get(x, 0, 512), data);
            x.hash(2, 0, 0);
            C.dueBytes("digest of " + n, Check.get(x, 0, 32), Reference.sha(Arrays.copyOfRange(data, 512 - n, 512)));
        }
    }

    private static void writesDigest() {
        int[] places = {0, 1, 77, 479, 480};
        byte[] data = Check.bytes(512, 6);
        for (int at : places) {
            Counted x = Check.officer();
            Check.put(x, 0, data);
            x.hash(0, 0, 0);
            C.due("digest of nothing", x.hash(2, at, 0), 32);
            C.dueBuffer("at " + at, x, data, at, Reference.sha(new byte[0]));
        }
    }

    private static void goesOn() {
        int[] sizes = {1, 55, 64, 100};
        for (int n : sizes) {
            Counted x = Check.officer();
            Check.put(x, 0, Check.bytes(200, n));
            byte[] all = new byte[0];
            x.hash(0, 0, 0);
            for (int i = 0; i < 8; i++) {
                all = Check.join(all, Check.get(x, 0, n));
                C.due("take", x.hash(1, 0, n), n);
                C.due("digest", x.hash(2, 0, 0), 32);
                C.due("digest again", x.hash(2, 40, 0), 32);
                C.dueBytes("digest " + i, Check.get(x, 0, 32), Reference.sha(all));
                C.dueBytes("digest again " + i, Check.get(x, 40, 32), Reference.sha(all));
            }
        }
        Counted x = Check.officer();
        x.load(0, 2, 12, 1, -1, 16);
        Check.feed(x, 0, 12);
        x.hash(0, 0, 0);
        x.hash(1, 100, 70);
        x.run(9, 0, 0, 99, 0);
        x.run(10, 0, 0, 99, 0);
        x.derive(1, 0, 2, 1, 64, 5);
        x.run(11, 0, 0, 64, 5);
        x.hash(2, 200, 0);
        C.dueBytes("services between do not change it", Check.get(x, 200, 32), Reference.sha(new byte[70]));
    }

    private static void pieces() {
        byte[] data = Check.bytes(512, 7);
        for (int piece = 1; piece <= 130; piece++) {
            Counted x = Check.user();
            Check.put(x, 0, data);
            x.hash(0, 0, 0);
            int total = 0;
            for (int i = 0; i < 9 && total + piece <= 512; i++) {
                x.hash(1, total, piece);
                x.hash(1, total, 0);
                total += piece;
            }
            x.hash(2, 300, 0);
            C.dueBytes("pieces of " + piece, Check.get(x, 300, 32), Reference.sha(Arrays.copyOf(data, total)));
        }
    }

    private static void refusedAsRun() {
        int[] others = {0, 1, 2, 5};
        for (int state : others) {
            for (int step = -1; step <= 3; step++) {
                C.due("step " + step + " in " + state, Check.inState(state).hash(step, 0, 0), -1);
                C.due("step " + step + " in " + state + ", no place", Check.inState(state).hash(step, 600, 0), -1);
            }
        }
    }

    private static void places() {
        Counted x = Check.officer();
        x.hash(0, 0, 0);
        int[][] takes = {
            {0, 513}, {1, 512}, {512, 1}, {513, 0}, {-1, 1}, {-1, 0}, {0, -1}, {5, -5}, {512, -1}, {Check.HIGHEST, 1},
            {1, Check.HIGHEST}, {Check.LOWEST, 0}, {0, Check.LOWEST}, {Check.HIGHEST, Check.HIGHEST},
        };
        for (int[] r : takes) {
            C.due("take " + Arrays.toString(r), x.hash(1, r[0], r[1]), -2);
        }
        int[] digests = {-1, 481, 512, Check.LOWEST, Check.HIGHEST, Check.HIGHEST - 31};
        for (int at : digests) {
            C.due("digest at " + at, x.hash(2, at, 0), -2);
        }
        C.due("no bytes at the end", x.hash(1, 512, 0), 0);
        C.due("the last byte", x.hash(1, 511, 1), 1);
        C.due("digest at 480", x.hash(2, 480, 0), 32);
        C.dueBytes("refusals took nothing in", Check.get(x, 480, 32), Reference.sha(new byte[1]));
    }

    private static void noneBegun() {
        for (int role = 1; role <= 2; role++) {
            Counted x = Check.inState(2 + role);
            C.due("take", x.hash(1, 0, 0), -4);
            C.due("take", x.hash(1, 0, 512), -4);
            C.due("digest", x.hash(2, 0, 0), -4);
            C.dueBytes("nothing was written", Check.get(x, 0, 512), new byte[512]);
            C.due("a refused step begins none", x.hash(3, 0, 0), -2);
            C.due("take", x.hash(1, 0, 0), -4);
            x.hash(0, 0, 0);
            C.due("take", x.hash(1, 0, 0), 0);
        }
    }

    private static void logoutEnds() {
        for (int role = 1; role <= 2; role++) {
            Counted x = Check.inState(2 + role);
            x.hash(0, 0, 0);
            x.hash(1, 0, 5);
            Check.change(x, role);
            C.due("take", x.hash(1, 0, 0), -4);
            C.due("digest", x.hash(2, 0, 0), -4);
            Counted y = Check.inState(2 + role);
            y.hash(0, 0, 0);
            Check.change(y, 3 - role);
            Check.change(y, role);
            C.due("take behind the other's login", y.hash(1, 0, 0), -4);
        }
    }

    private static void numbersNotNeeded() {
        int[] any = {-1, 481, 512, 513, Check.LOWEST, Check.HIGHEST};
        Counted x = Check.officer();
        for (int number : any) {
            C.due("begin at " + number, x.hash(0, number, 0), 0);
            C.due("begin with " + number, x.hash(0, 0, number), 0);
            C.due("begin with both", x.hash(0, number, number), 0);
            C.due("digest with " + number, x.hash(2, 480, number), 32);
        }
        C.dueBytes("digest", Check.get(x, 480, 32), Reference.sha(new byte[0]));
    }

    private static void steps() {
        Counted x = Check.officer();
        int[] wrong = {-1, 3, Check.LOWEST, Check.HIGHEST};
        for (int step : wrong) {
            C.due("step " + step + " without a stream", x.hash(step, 0, 0), -2);
        }
        x.hash(0, 0, 0);
        for (int step : wrong) {
            C.due("step " + step, x.hash(step, 0, 0), -2);
        }
        C.due("the stream goes on", x.hash(2, 0, 0), 32);
    }

    private static void answers() {
        Counted x = Check.user();
        C.due("begin", x.hash(0, 7, 7), 0);
        C.due("take", x.hash(1, 7, 7), 7);
        C.due("take none", x.hash(1, 7, 0), 0);
        C.due("digest", x.hash(2, 7, 7), 32);
    }
}
