import java.util.Arrays;

/** Counts the answers that are not as due, and brings modules to where a test begins. */
final class Check {
    private int wrong = 0;

    void due(String what, long got, long want) {
        if (got != want) {
            tell(what + " answered " + got + ", due is " + want);
        }
    }

    void due(String what, boolean got, boolean want) {
        due(what, got ? 1 : 0, want ? 1 : 0);
    }

    void dueBytes(String what, byte[] got, byte[] want) {
        if (!Arrays.equals(got, want)) {
            tell(what + " answered " + hex(got) + ", due is " + hex(want));
        }
    }

    void throwing(String what, Class<? extends RuntimeException> kind, Runnable call) {
        String got = "nothing";
        try {
            call.run();
        } catch (RuntimeException e) {
            got = e.getClass().getSimpleName();
        }
        if (!got.equals(kind.getSimpleName())) {
            tell(what + " threw " + got + ", due is " + kind.getSimpleName());
        }
    }

    void illegalArgument(String what, Runnable call) {
        throwing(what, IllegalArgumentException.class, call);
    }

    void illegalState(String what, Runnable call) {
        throwing(what, IllegalStateException.class, call);
    }

    private void tell(String text) {
        wrong++;
        System.out.println(text);
    }

    void finish() {
        System.out.println(wrong == 0 ? "all answers are as due" : wrong + " answers are not as due");
        if (wrong != 0) {
            System.exit(1);
        }
    }

    static SealedModule ready() {
        SealedModule x = new SealedModule();
        x.power(true);
        x.selfTestStep(10);
        return x;
    }

    static SealedModule officer() {
        SealedModule x = ready();
        x.login(1, 1111);
        return x;
    }

    static SealedModule user() {
        SealedModule x = ready();
        x.login(2, 2222);
        return x;
    }

    static SealedModule inError() {
        SealedModule x = new SealedModule();
        x.power(true);
        x.fault(0);
        x.selfTestStep(1);
        return x;
    }

    /** The other role takes over; the pins have to be the first ones. */
    static void change(SealedModule x, int role) {
        x.logout();
        x.login(role, role == 1 ? 1111 : 2222);
    }

    static void put(SealedModule x, int at, byte[] bytes) {
        for (int i = 0; i < bytes.length; i++) {
            x.poke(at + i, bytes[i], 1);
        }
    }

    static byte[] get(SealedModule x, int at, int n) {
        byte[] out = new byte[n];
        for (int i = 0; i < n; i++) {
            int place = Math.min(at + i, 504);
            out[i] = (byte) (x.peek(place) >>> 56 - 8 * (at + i - place));
        }
        return out;
    }

    static void feed(SealedModule x, int from, int count) {
        for (int i = 0; i < count; i++) {
            x.entropy(word(from + i));
        }
    }

    static int word(int i) {
        return 0x9e3779b1 * (i + 1);
    }

    static byte[] wordBytes(int from, int count) {
        byte[] out = new byte[4 * count];
        for (int i = 0; i < out.length; i++) {
            out[i] = (byte) (word(from + i / 4) >>> 24 - 8 * (i % 4));
        }
        return out;
    }

    /** Bytes that look mixed, alike for the same seed. */
    static byte[] bytes(int n, int seed) {
        byte[] out = new byte[n];
        int x = 12345 + 7919 * seed;
        for (int i = 0; i < n; i++) {
            x = x * 1103515245 + 12345;
            out[i] = (byte) (x >>> 16);
        }
        return out;
    }

    static byte[] unhex(String text) {
        byte[] out = new byte[text.length() / 2];
        for (int i = 0; i < out.length; i++) {
            out[i] = (byte) Integer.parseInt(text.substring(2 * i, 2 * i + 2), 16);
        }
        return out;
    }

    static String hex(byte[] bytes) {
        StringBuilder out = new StringBuilder();
        for (byte b : bytes) {
            out.append(String.format("%02x", b));
        }
        return out.toString();
    }

    static byte[] join(byte[]... parts) {
        int n = 0;
        for (byte[] part : parts) {
            n += part.length;
        }
        byte[] out = new byte[n];
        int at = 0;
        for (byte[] part : parts) {
            System.arraycopy(part, 0, out, at, part.length);
            at += part.length;
        }
        return out;
    }
}
