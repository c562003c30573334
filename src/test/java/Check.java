import java.util.Arrays;

/** Counts the sentences of the document that hold, and brings modules to where a test begins. */
final class Check {
    static final int LOWEST = Integer.MIN_VALUE;
    static final int HIGHEST = Integer.MAX_VALUE;

    private int wrong = 0;
    private int passed = 0;
    private int failed = 0;
    private String sentence = "";

    /** Runs the test of one sentence; each answer in it that is not as due breaks the sentence. */
    void holds(String words, Runnable test) {
        int before = wrong;
        sentence = words;
        try {
            test.run();
        } catch (RuntimeException | AssertionError e) {
            tell("the test was ended by " + e);
        }
        if (wrong == before) {
            passed++;
        } else {
            failed++;
        }
    }

    void due(String what, long got, long want) {
        if (got != want) {
            tell(what + " answered " + got + ", due is " + want);
        }
    }

    void due(String what, boolean got, boolean want) {
        due(what, got ? 1 : 0, want ? 1 : 0);
    }

    void dueBytes(String what, byte[] got, byte[] want) {
        if (!Arrays.equals(got, want)) {
            tell(what + " answered " + hex(got) + ", due is " + hex(want));
        }
    }

    /** The whole buffer is as it was before, but for what stands from a place on now. */
    void dueBuffer(String what, Counted x, byte[] before, int at, byte[] now) {
        byte[] want = before.clone();
        System.arraycopy(now, 0, want, at, now.length);
        dueBytes(what, get(x, 0, 512), want);
    }

    void throwing(String what, Class<? extends RuntimeException> kind, Runnable call) {
        String got = "nothing";
        try {
            call.run();
        } catch (RuntimeException e) {
            got = e.getClass().getSimpleName();
        }
        if (!got.equals(kind.getSimpleName())) {
            tell(what + " threw " + got + ", due is " + kind.getSimpleName());
        }
    }

    void illegalArgument(String what, Runnable call) {
        throwing(what, IllegalArgumentException.class, call);
    }

    void illegalState(String what, Runnable call) {
        throwing(what, IllegalStateException.class, call);
    }

    private void tell(String text) {
        wrong++;
        System.out.println("\"" + sentence + "\": " + text);
    }

    void finish() {
        System.out.println(passed + " passed, " + failed + " failed");
        if (failed != 0 || passed == 0) {
            System.exit(1);
        }
    }

    static Counted testing() {
        Counted x = new Counted();
        x.power(true);
        return x;
    }

    static Counted ready() {
        Counted x = testing();
        x.selfTestStep(10);
        return x;
    }

    static Counted officer() {
        Counted x = ready();
        x.login(1, 1111);
        return x;
    }

    static Counted user() {
        Counted x = ready();
        x.login(2, 2222);
        return x;
    }

    static Counted inError() {
        Counted x = testing();
        x.fault(0);
        x.selfTestStep(1);
        return x;
    }

    static Counted inState(int state) {
        switch (state) {
            case 0:
                return new Counted();
            case 1:
                return testing();
            case 2:
                return ready();
            case 3:
                return officer();
            case 4:
                return user();
            default:
                return inError();
        }
    }

    /** A module brought to a state without what it holds being lost; its pins are the first ones. */
    static void bring(Counted x, int state) {
        if (state == 0) {
            x.power(false);
            return;
        }
        x.power(true);
        if (state == 5) {
            x.fault(0);
        }
        if (state != 1) {
            x.selfTestStep(10);
        }
        if (state == 3 || state == 4) {
            x.login(state - 2, 1111 * (state - 2));
        }
    }

    /** The other role takes over; the pins have to be the first ones. */
    static void change(Counted x, int role) {
        x.logout();
        x.login(role, 1111 * role);
    }

    static void put(Counted x, int at, byte[] bytes) {
        for (int i = 0; i < bytes.length; i += 8) {
            int n = Math.min(8, bytes.length - i);
            long value = 0;
            for (int k = 0; k < n; k++) {
                value = value << 8 | bytes[i + k] & 255;
            }
            x.poke(at + i, value, n);
        }
    }

    static byte[] get(Counted x, int at, int n) {
        byte[] out = new byte[n];
        for (int i = 0; i < n; i += 8) {
            int place = Math.min(at + i, 504);
            long value = x.peek(place);
            for (int k = i; k < n && at + k < place + 8; k++) {
                out[k] = (byte) (value >>> 56 - 8 * (at + k - place));
            }
        }
        return out;
    }

    static void feed(Counted x, int from, int count) {
        for (int i = 0; i < count; i++) {
            x.entropy(word(from + i));
        }
    }

    /** Words that are all different, with all four bytes in use. */
    static int word(int i) {
        return 0x9e3779b1 * (i + 1);
    }

    static byte[] wordBytes(int from, int count) {
        byte[] out = new byte[4 * count];
        for (int i = 0; i < out.length; i++) {
            out[i] = (byte) (word(from + i / 4) >>> 24 - 8 * (i % 4));
        }
        return out;
    }

    /** Bytes that look mixed, alike for the same seed. */
    static byte[] bytes(int n, int seed) {
        byte[] out = new byte[n];
        int x = 12345 + 7919 * seed;
        for (int i = 0; i < n; i++) {
            x = x * 1103515245 + 12345;
            out[i] = (byte) (x >>> 16);
        }
        return out;
    }

    static byte[] unhex(String text) {
        byte[] out = new byte[text.length() / 2];
        for (int i = 0; i < out.length; i++) {
            out[i] = (byte) Integer.parseInt(text.substring(2 * i, 2 * i + 2), 16);
        }
        return out;
    }

    static String hex(byte[] bytes) {
        StringBuilder out = new StringBuilder();
        for (byte b : bytes) {
            out.append(String.format("%02x", b));
        }
        return out.toString();
    }

    static byte[] join(byte[]... parts) {
        int n = 0;
        for (byte[] part : parts) {
            n += part.length;
        }
        byte[] out = new byte[n];
        int at = 0;
        for (byte[] part : parts) {
            System.arraycopy(part, 0, out, at, part.length);
            at += part.length;
        }
        return out;
    }
}
