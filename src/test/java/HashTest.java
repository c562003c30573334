import java.util.Arrays;

/** Promise 21: hash, a stream for each role. */
public final class HashTest {
    private static final Check C = new Check();

    public static void main(String[] args) {
        pieces();
        goesOn();
        beginsAnew();
        refusals();
        oneForEachRole();
        apartFromServices();
        C.finish();
    }

    private static void pieces() {
        byte[] data = Check.bytes(512, 5);
        for (int piece = 1; piece <= 130; piece += 3) {
            SealedModule x = Check.user();
            Check.put(x, 0, data);
            C.due("begin", x.hash(0, 0, 0), 0);
            int total = 0;
            for (int i = 0; i < 7 && total + piece <= 512; i++) {
                C.due("take " + piece, x.hash(1, total, piece), piece);
                total += piece;
            }
            C.due("digest", x.hash(2, 300, 0), 32);
            C.dueBytes("of " + total, Check.get(x, 300, 32), Reference.sha(Arrays.copyOf(data, total)));
        }
    }

    private static void goesOn() {
        SealedModule x = Check.officer();
        byte[] data = Check.bytes(512, 6);
        Check.put(x, 0, data);
        byte[] all = new byte[0];
        x.hash(0, 0, 0);
        C.due("digest of nothing", x.hash(2, 0, 0), 32);
        C.dueBytes("digest of nothing", Check.get(x, 0, 32), Reference.sha(all));
        for (int i = 0; i < 10; i++) {
            all = Check.join(all, Check.get(x, 0, 512));
            C.due("all the buffer", x.hash(1, 0, 512), 512);
            C.due("no bytes", x.hash(1, 512, 0), 0);
            C.due("digest", x.hash(2, 0, 0), 32);
            C.dueBytes("digest " + i, Check.get(x, 0, 32), Reference.sha(all));
            C.due("again", x.hash(2, 40, 0), 32);
            C.dueBytes("again " + i, Check.get(x, 40, 32), Reference.sha(all));
        }
    }

    private static void beginsAnew() {
        SealedModule x = Check.officer();
        x.hash(0, 0, 0);
        x.hash(1, 0, 100);
        C.due("whatever was", x.hash(0, -5, Integer.MAX_VALUE), 0);
        x.hash(1, 0, 3);
        x.hash(2, 8, 0);
        C.dueBytes("three bytes", Check.get(x, 8, 32), Reference.sha(new byte[3]));
    }

    private static void refusals() {
        C.due("off", new SealedModule().hash(0, 0, 0), -1);
        C.due("ready", Check.ready().hash(7, 0, 0), -1);
        SealedModule x = Check.officer();
        C.due("step -1", x.hash(-1, 0, 0), -2);
        C.due("step 3", x.hash(3, 0, 0), -2);
        C.due("none begun", x.hash(1, 0, 0), -4);
        C.due("none begun", x.hash(2, 0, 0), -4);
        C.due("number before it", x.hash(1, 0, 513), -2);
        C.due("number before it", x.hash(2, 481, 0), -2);
        x.hash(0, 0, 0);
        C.due("n -1", x.hash(1, 0, -1), -2);
        C.due("at -1", x.hash(1, -1, 1), -2);
        C.due("behind the end", x.hash(1, 1, 512), -2);
        C.due("far behind", x.hash(1, Integer.MAX_VALUE, 1), -2);
        C.due("far behind", x.hash(1, 1, Integer.MAX_VALUE), -2);
        C.due("digest at -1", x.hash(2, -1, 0), -2);
        C.due("digest at 481", x.hash(2, 481, 0), -2);
        C.due("digest at 480, n not looked at", x.hash(2, 480, -77), 32);
        C.dueBytes("refusals took nothing in", Check.get(x, 480, 32), Reference.sha(new byte[0]));
    }

    private static void oneForEachRole() {
        SealedModule x = Check.officer();
        x.hash(0, 0, 0);
        Check.change(x, 2);
        C.due("the user's is not begun", x.hash(1, 0, 1), -4);
        x.hash(0, 0, 0);
        Check.change(x, 1);
        C.due("the officer's has ended", x.hash(1, 0, 1), -4);
    }

    private static void apartFromServices() {
        SealedModule x = Check.officer();
        x.load(0, 2, 12, 1, -1, 16);
        x.hash(0, 0, 0);
        x.hash(1, 100, 70);
        x.run(9, 0, 0, 100, 0);
        x.run(10, 0, 0, 100, 0);
        x.derive(1, 0, 2, 1, 64, 5);
        Check.feed(x, 0, 12);
        x.run(11, 0, 0, 64, 5);
        x.hash(2, 200, 0);
        C.dueBytes("seventy zeros", Check.get(x, 200, 32), Reference.sha(new byte[70]));
    }
}
