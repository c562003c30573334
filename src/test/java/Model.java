import java.io.ByteArrayOutputStream;
import java.util.ArrayList;
import java.util.Arrays;
import java.util.HashSet;
import java.util.List;
import java.util.Set;

/** The document told once more, by Java's own library and without care for room or speed. */
final class Model {
    private static final class Key {
        int kind;
        int usage;
        int role;
        int uses;
        byte[] bytes;

        Key(int kind, int usage, int role, int uses, byte[] bytes) {
            this.kind = kind;
            this.usage = usage;
            this.role = role;
            this.uses = uses;
            this.bytes = bytes;
        }

        boolean has(int bit) {
            return (usage & bit) == bit;
        }

        void use() {
            uses = uses < 0 ? uses : uses - 1;
        }
    }

    private int state = 0;
    private int testsLeft = 0;
    private final Set<Integer> faults = new HashSet<>();
    private byte[] buffer = new byte[512];
    private final Key[] slots = new Key[16];
    private final int[] pins = {0, 1111, 2222};
    private final int[] tries = new int[3];
    private final int[] counters = new int[3];
    private final ByteArrayOutputStream[] streams = new ByteArrayOutputStream[3];
    private final List<Integer> history = new ArrayList<>();
    private final List<Integer> kept = new ArrayList<>();
    private boolean healthy = true;
    private Reference.Drbg drbg = null;

    int power(boolean on) {
        state = on ? 1 : 0;
        if (on) {
            testsLeft = 10;
            faults.clear();
            buffer = new byte[512];
            Arrays.fill(streams, null);
            drbg = null;
            history.clear();
            kept.clear();
            healthy = true;
        }
        return state;
    }

    int selfTestStep(int n) {
        if (n < 0 || n > 10 || state != 1 && state != 5) {
            return -2;
        }
        while (n > 0 && state == 1) {
            n--;
            if (faults.contains(10 - testsLeft)) {
                state = 5;
                counters[2]++;
            } else if (--testsLeft == 0) {
                state = 2;
            }
        }
        return state == 5 ? -1 : testsLeft;
    }

    void fault(int test) {
        illegalArgumentIf(test < 0 || test > 9);
        faults.add(test);
    }

    void poke(int i, long bytes, int n) {
        if (state == 0) {
            throw new IllegalStateException();
        }
        illegalArgumentIf(n < 1 || n > 8 || i < 0 || (long) i + n > 512);
        for (int k = n - 1; k >= 0; k--) {
            buffer[i + k] = (byte) bytes;
            bytes >>= 8;
        }
    }

    long peek(int i) {
        illegalArgumentIf(i < 0 || i > 504);
        long value = 0;
        for (int k = 0; k < 8; k++) {
            value = value * 256 + (buffer[i + k] & 255);
        }
        return role() == 0 ? 0 : value;
    }

    int login(int role, int pin) {
        if (state != 2) {
            return counted(-1);
        }
        if (role != 1 && role != 2) {
            return counted(-2);
        }
        if (tries[role] >= 3) {
            return counted(-10);
        }
        if (pin != pins[role]) {
            tries[role]++;
            return counted(-10);
        }
        tries[role] = 0;
        state = 2 + role;
        return counted(0);
    }

    void logout() {
        if (role() == 0) {
            throw new IllegalStateException();
        }
        streams[role()] = null;
        state = 2;
    }

    int setPin(int role, int pin) {
        if (role() == 0) {
            return counted(-1);
        }
        if (role < 1 || role > 2 || pin < 0 || pin >= 1000000) {
            return counted(-2);
        }
        if (role() != 1) {
            return counted(-3);
        }
        pins[role] = pin;
        tries[role] = 0;
        return counted(0);
    }

    int entropy(int word) {
        if (state == 0) {
            throw new IllegalStateException();
        }
        if (!healthy) {
            return 0;
        }
        history.add(word);
        int size = history.size();
        int row = 0;
        while (row < size && history.get(size - 1 - row) == word) {
            row++;
        }
        List<Integer> window = history.subList((size - 1) / 16 * 16, size);
        long times = window.stream().filter(w -> w.equals(window.get(0))).count();
        if (row >= 4 || times >= 6) {
            healthy = false;
            return 0;
        }
        if (kept.size() < 64) {
            kept.add(word);
        }
        return 1;
    }

    int state() {
        return state;
    }

    int slotInfo(int slot, int what) {
        illegalArgumentIf(notSlot(slot) || what < 0 || what > 4);
        Key key = slots[slot];
        return key == null ? -1 : new int[] {key.kind, key.bytes.length, key.usage, key.role, key.uses}[what];
    }

    int zeroise(int slot) {
        if (role() == 0) {
            return counted(-1);
        }
        if (notSlot(slot)) {
            return counted(-2);
        }
        if (foreign(slot)) {
            return counted(-3);
        }
        if (slots[slot] == null) {
            return counted(-4);
        }
        slots[slot] = null;
        return counted(0);
    }

    void zeroiseAll() {
        Arrays.fill(slots, null);
        pins[1] = 1111;
        pins[2] = 2222;
        Arrays.fill(tries, 0);
        drbg = null;
        kept.clear();
        if (role() != 0) {
            state = 2;
            Arrays.fill(streams, null);
        }
    }

    int load(int slot, int kind, int usage, int role, int uses, int n) {
        int refusal = newKey(slot, kind, usage, role, uses, n);
        if (refusal == 0) {
            slots[slot] = new Key(kind, usage, role, uses, Arrays.copyOf(buffer, n));
        }
        return counted(refusal);
    }

    int make(int slot, int kind, int usage, int role, int uses, int n) {
        int refusal = newKey(slot, kind, usage, role, uses, n);
        if (refusal == 0 && !canDraw()) {
            refusal = -8;
        }
        if (refusal == 0) {
            slots[slot] = new Key(kind, usage, role, uses, draw(n, new byte[0]));
        }
        return counted(refusal);
    }

    private int newKey(int slot, int kind, int usage, int role, int uses, int n) {
        if (role() == 0) {
            return -1;
        }
        if (notSlot(slot) || notKind(kind) || notUsage(usage) || role < 1 || role > 2
                || uses < -1 || uses > 1000000 || n < 1 || n > 64) {
            return -2;
        }
        return role() != 1 ? -3 : slots[slot] != null ? -4 : wrongLength(kind, n) ? -5 : 0;
    }

    int derive(int slot, int from, int kind, int usage, int n, int m) {
        if (role() == 0) {
            return counted(-1);
        }
        if (notSlot(slot) || notSlot(from) || notKind(kind) || notUsage(usage)
                || n < 1 || n > 64 || m < 0 || m > 64) {
            return counted(-2);
        }
        if (foreign(from)) {
            return counted(-3);
        }
        if (slots[from] == null || slots[slot] != null) {
            return counted(-4);
        }
        if (slots[from].kind != 2 || wrongLength(kind, n)) {
            return counted(-5);
        }
        int refusal = bitAndUses(from, 8);
        if (refusal == 0) {
            slots[from].use();
            byte[] bytes = Reference.derived(slots[from].bytes, Arrays.copyOf(buffer, m), n);
            slots[slot] = new Key(kind, usage, role(), -1, bytes);
        }
        return counted(refusal);
    }

    int wrap(int slot, int by) {
        if (role() == 0) {
            return counted(-1);
        }
        if (notSlot(slot) || notSlot(by) || slot == by) {
            return counted(-2);
        }
        if (foreign(slot) || foreign(by)) {
            return counted(-3);
        }
        Key inner = slots[slot];
        Key outer = slots[by];
        if (inner == null || outer == null) {
            return counted(-4);
        }
        if (outer.kind != 1 || inner.bytes.length % 8 != 0) {
            return counted(-5);
        }
        if (!inner.has(32) || !outer.has(16)) {
            return counted(-6);
        }
        if (inner.uses == 0 || outer.uses == 0) {
            return counted(-7);
        }
        inner.use();
        outer.use();
        byte[] head = {(byte) inner.kind, (byte) inner.usage, (byte) inner.role, 0, 0, 0, 0, 0};
        return counted(written(0, Reference.wrap(outer.bytes, Check.join(head, inner.bytes))));
    }

    int unwrap(int slot, int by, int n) {
        if (role() == 0) {
            return counted(-1);
        }
        if (notSlot(slot) || notSlot(by) || n < 24 || n > 80 || n % 8 != 0) {
            return counted(-2);
        }
        if (foreign(by)) {
            return counted(-3);
        }
        if (slots[by] == null || slots[slot] != null) {
            return counted(-4);
        }
        if (slots[by].kind != 1) {
            return counted(-5);
        }
        int refusal = bitAndUses(by, 16);
        if (refusal != 0) {
            return counted(refusal);
        }
        slots[by].use();
        byte[] clear = Reference.unwrap(slots[by].bytes, Arrays.copyOf(buffer, n));
        if (clear == null || clear[0] != 1 && clear[0] != 2 || clear[1] < 32 || clear[1] > 63
                || clear[2] != 1 && clear[2] != 2 || wrongLength(clear[0], n - 16)
                || !Arrays.equals(Arrays.copyOfRange(clear, 3, 8), new byte[5])) {
            return counted(-9);
        }
        slots[slot] = new Key(clear[0], clear[1], role(), -1, Arrays.copyOfRange(clear, 8, n - 8));
        return counted(0);
    }

    int run(int service, int slot, int at, int n, int m) {
        if (role() == 0) {
            return counted(-1);
        }
        if (service < 1 || service > 11 || at < 0 || n < 0 || (long) at + n > 512 || wrongSize(service, at, n, m)) {
            return counted(-2);
        }
        if (service == 9) {
            return counted(written(at, Reference.sha(part(at, n))));
        }
        if (service == 11) {
            return counted(canDraw() ? written(at, draw(n, Arrays.copyOf(buffer, m))) : -8);
        }
        if (notSlot(slot)) {
            return counted(-2);
        }
        if (foreign(slot)) {
            return counted(-3);
        }
        if (slots[slot] == null) {
            return counted(-4);
        }
        if (slots[slot].kind != (service == 10 ? 2 : 1)) {
            return counted(-5);
        }
        int refusal = bitAndUses(slot, new int[] {0, 1, 2, 1, 2, 1, 1, 2, 4, 0, 4}[service]);
        if (refusal != 0) {
            return counted(refusal);
        }
        slots[slot].use();
        return counted(withKey(service, slots[slot].bytes, at, n, m));
    }

    private static boolean wrongSize(int service, int at, int n, int m) {
        boolean extra = service == 6 || service == 7 || service == 11;
        if (extra ? m < 0 || m > 64 : m != 0) {
            return true;
        }
        int out = new int[] {0, n, n, n, n, n, n + 16, n, 16, 32, 32, n}[service];
        if (at + out > 512) {
            return true;
        }
        if (service <= 4 && n % 16 != 0) {
            return true;
        }
        int least = new int[] {0, 0, 0, 16, 16, 16, 12 + m, 28 + m, 0, 0, 0, 0}[service];
        return n < least || service == 11 && n > 256;
    }

    private int withKey(int service, byte[] key, int at, int n, int m) {
        byte[] start = service >= 3 && service <= 5 ? part(at, 16) : null;
        switch (service) {
            case 1:
            case 2:
                return written(at, Reference.aes("ECB", service == 1, key, null, part(at, n)));
            case 3:
            case 4:
                written(at + 16, Reference.aes("CBC", service == 3, key, start, part(at + 16, n - 16)));
                return n;
            case 5:
                written(at + 16, Reference.aes("CTR", true, key, start, part(at + 16, n - 16)));
                return n;
            case 6:
            case 7:
                byte[] text = part(at + 12 + m, n - 12 - m);
                byte[] out = Reference.gcm(service == 6, key, part(at, 12), part(at + 12, m), text);
                return out == null ? -9 : 12 + m + written(at + 12 + m, out);
            case 8:
                return written(at, Reference.cmac(key, part(at, n)));
            default:
                return written(at, Reference.hmac(key, part(at, n)));
        }
    }

    int hash(int step, int at, int n) {
        if (role() == 0) {
            return counted(-1);
        }
        if (step < 0 || step > 2 || step == 1 && (at < 0 || n < 0 || (long) at + n > 512)
                || step == 2 && (at < 0 || at > 480)) {
            return counted(-2);
        }
        if (step == 0) {
            streams[role()] = new ByteArrayOutputStream();
            return counted(0);
        }
        ByteArrayOutputStream stream = streams[role()];
        if (stream == null) {
            return counted(-4);
        }
        if (step == 1) {
            stream.write(buffer, at, n);
            return counted(n);
        }
        return counted(written(at, Reference.sha(stream.toByteArray())));
    }

    int counter(int kind) {
        illegalArgumentIf(kind < 0 || kind > 2);
        return counters[kind];
    }

    boolean same(int slot, int n) {
        illegalArgumentIf(notSlot(slot));
        Key key = slots[slot];
        return key != null && key.bytes.length == n && Arrays.equals(key.bytes, Arrays.copyOf(buffer, n));
    }

    private int role() {
        return state == 3 ? 1 : state == 4 ? 2 : 0;
    }

    private int counted(int answer) {
        counters[answer < 0 ? 1 : 0]++;
        return answer;
    }

    private boolean foreign(int slot) {
        return slots[slot] != null && slots[slot].role != role();
    }

    private int bitAndUses(int slot, int bit) {
        return !slots[slot].has(bit) ? -6 : slots[slot].uses == 0 ? -7 : 0;
    }

    private int wordsNeeded() {
        return drbg == null ? 12 : drbg.requests == 64 ? 8 : 0;
    }

    private boolean canDraw() {
        return healthy && kept.size() >= wordsNeeded();
    }

    private byte[] draw(int n, byte[] additional) {
        byte[] seed = new byte[4 * wordsNeeded()];
        for (int i = 0; i < seed.length / 4; i++) {
            int word = kept.remove(0);
            for (int k = 0; k < 4; k++) {
                seed[4 * i + k] = (byte) (word >> 24 - 8 * k);
            }
        }
        if (drbg == null) {
            drbg = new Reference.Drbg(seed);
        } else if (seed.length > 0) {
            drbg.seed(seed);
        }
        return drbg.next(n, additional);
    }

    private byte[] part(int at, int n) {
        return Arrays.copyOfRange(buffer, at, at + n);
    }

    private int written(int at, byte[] bytes) {
        System.arraycopy(bytes, 0, buffer, at, bytes.length);
        return bytes.length;
    }

    private static boolean notSlot(int slot) {
        return slot < 0 || slot > 15;
    }

    private static boolean notKind(int kind) {
        return kind != 1 && kind != 2;
    }

    private static boolean notUsage(int usage) {
        return usage < 0 || usage > 63;
    }

    private static boolean wrongLength(int kind, int n) {
        return kind == 1 && n != 16 && n != 32;
    }

    private static void illegalArgumentIf(boolean wrong) {
        if (wrong) {
            throw new IllegalArgumentException();
        }
    }
}
