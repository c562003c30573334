import java.util.Arrays;

/**
 * A cryptographic module: keys in slots that belong to roles, services over a buffer, a generator
 * fed with watched entropy, and tests with known answers when it is switched on.
 *
 * <p>Each working row is made once with the object and used again, so that no call makes objects.
 */
public final class SealedModule {
    private static final int OFF = 0;
    private static final int TESTING = 1;
    private static final int READY = 2;
    private static final int OFFICER = 3;
    private static final int USER = 4;
    private static final int ERROR = 5;

    private static final int OFFICER_ROLE = 1;
    private static final int USER_ROLE = 2;
    private static final int OFFICER_PIN = 1111;
    private static final int USER_PIN = 2222;
    private static final int HIGHEST_PIN = 999999;

    private static final int BUFFER_BYTES = 512;
    private static final int SLOTS = 16;
    private static final int SHORTEST_WRAPPED = 24;
    private static final int LONGEST_WRAPPED = 80;
    private static final int LONGEST_EXTRA = 64;
    private static final int MOST_USES = 1000000;

    private static final int AES = 1;
    private static final int MAC = 2;

    private static final int BIT_SEAL = 1;
    private static final int BIT_OPEN = 2;
    private static final int BIT_MAC = 4;
    private static final int BIT_DERIVE = 8;
    private static final int BIT_WRAP = 16;
    private static final int BIT_EXPORT = 32;
    private static final int ALL_BITS = 63;

    private static final int ECB_SEAL = 1;
    private static final int ECB_OPEN = 2;
    private static final int CBC_SEAL = 3;
    private static final int CBC_OPEN = 4;
    private static final int CTR = 5;
    private static final int GCM_SEAL = 6;
    private static final int GCM_OPEN = 7;
    private static final int CMAC = 8;
    private static final int SHA = 9;
    private static final int HMAC = 10;
    private static final int GENERATOR = 11;

    private static final int BLOCK = 16;
    private static final int DIGEST = 32;
    private static final int NONCE = 12;
    private static final int LONGEST_REQUEST = 256;

    private static final int WRONG_STATE = -1;
    private static final int WRONG_NUMBER = -2;
    private static final int WRONG_ROLE = -3;
    private static final int WRONG_FILLING = -4;
    private static final int WRONG_KEY = -5;
    private static final int WRONG_USAGE = -6;
    private static final int NO_USES = -7;
    private static final int NO_ENTROPY = -8;
    private static final int CHECK_FAILS = -9;
    private static final int WRONG_PIN = -10;

    private static final int ACCEPTED = 0;
    private static final int REFUSED = 1;
    private static final int TESTS_FAILED = 2;

    private final byte[] buffer = new byte[BUFFER_BYTES];
    private final Slot[] slots = new Slot[SLOTS];
    private final int[] counters = new int[3];
    private final Pin officerPin = new Pin(OFFICER_PIN);
    private final Pin userPin = new Pin(USER_PIN);
    private final Entropy words = new Entropy();
    private final Sha256 sha = new Sha256();
    // One stream is enough: whatever ends a login ends its stream too.
    private final Sha256 stream = new Sha256();
    private final Aes aes = new Aes();
    private final Modes modes = new Modes(aes);
    private final Gcm gcm = new Gcm(aes, modes);
    private final Generator generator = new Generator(sha);
    private final SelfTests tests = new SelfTests(aes, modes, gcm, sha);
    private final byte[] message = new byte[4 + LONGEST_EXTRA];
    private final byte[] secret = new byte[LONGEST_WRAPPED];
    private int state = OFF;
    private int testsDone = 0;
    private int faults = 0;
    private boolean streamBegun = false;

    public SealedModule() {
        for (int i = 0; i < SLOTS; i++) {
            slots[i] = new Slot();
        }
    }

    public int power(boolean on) {
        words.forgetAll();
        generator.forget();
        streamBegun = false;
        state = OFF;
        if (on) {
            Arrays.fill(buffer, (byte) 0);
            testsDone = 0;
            faults = 0;
            state = TESTING;
        }
        return state;
    }

    public int selfTestStep(int n) {
        if (n < 0 || n > SelfTests.COUNT || (state != TESTING && state != ERROR)) {
            return WRONG_NUMBER;
        }
        for (int i = 0; i < n && state == TESTING; i++) {
            boolean faulty = (faults >> testsDone & 1) == 1;
            takeTestResult(tests.comesRight(testsDone, faulty));
        }
        return state == ERROR ? -1 : SelfTests.COUNT - testsDone;
    }

    private void takeTestResult(boolean right) {
        if (!right) {
            counters[TESTS_FAILED]++;
            state = ERROR;
            return;
        }
        testsDone++;
        if (testsDone == SelfTests.COUNT) {
            state = READY;
        }
    }

    public void fault(int test) throws IllegalArgumentException {
        if (test < 0 || test >= SelfTests.COUNT) {
            throw new IllegalArgumentException("no such test");
        }
        faults |= 1 << test;
    }

    public void poke(int i, long bytes, int n) throws IllegalArgumentException, IllegalStateException {
        if (state == OFF) {
            throw new IllegalStateException("the module is off");
        }
        if (n < 1 || n > 8 || !inBuffer(i, n)) {
            throw new IllegalArgumentException("no such bytes of the buffer");
        }
        for (int k = 0; k < n; k++) {
            buffer[i + k] = (byte) (bytes >>> 8 * (n - 1 - k));
        }
    }

    public long peek(int i) throws IllegalArgumentException {
        if (!inBuffer(i, 8)) {
            throw new IllegalArgumentException("no such bytes of the buffer");
        }
        return loggedIn() ? longAt(buffer, i) : 0;
    }

    public int login(int role, int pin) {
        return counted(loginAnswer(role, pin));
    }

    private int loginAnswer(int role, int pin) {
        if (state != READY) {
            return WRONG_STATE;
        }
        if (!isRole(role)) {
            return WRONG_NUMBER;
        }
        if (!pinOf(role).opens(pin)) {
            return WRONG_PIN;
        }
        state = role == OFFICER_ROLE ? OFFICER : USER;
        return 0;
    }

    public void logout() throws IllegalStateException {
        if (!loggedIn()) {
            throw new IllegalStateException("nobody is logged in");
        }
        endLogin();
    }

    private void endLogin() {
        state = READY;
        streamBegun = false;
    }

    public int setPin(int role, int pin) {
        return counted(setPinAnswer(role, pin));
    }

    private int setPinAnswer(int role, int pin) {
        if (!loggedIn()) {
            return WRONG_STATE;
        }
        if (!isRole(role) || pin < 0 || pin > HIGHEST_PIN) {
            return WRONG_NUMBER;
        }
        if (state != OFFICER) {
            return WRONG_ROLE;
        }
        pinOf(role).renew(pin);
        return 0;
    }

    public int entropy(int word) throws IllegalStateException {
        if (state == OFF) {
            throw new IllegalStateException("the module is off");
        }
        return words.accepts(word) ? 1 : 0;
    }

    public int state() {
        return state;
    }

    public int slotInfo(int slot, int what) throws IllegalArgumentException {
        if (!isSlot(slot) || what < 0 || what > 4) {
            throw new IllegalArgumentException("no such slot or what");
        }
        Slot asked = slots[slot];
        if (asked.isEmpty()) {
            return -1;
        }
        switch (what) {
            case 0:
                return asked.kind;
            case 1:
                return asked.length;
            case 2:
                return asked.usage;
            case 3:
                return asked.role;
            default:
                return asked.uses;
        }
    }

    public int zeroise(int slot) {
        return counted(zeroiseAnswer(slot));
    }

    private int zeroiseAnswer(int slot) {
        if (!loggedIn()) {
            return WRONG_STATE;
        }
        if (!isSlot(slot)) {
            return WRONG_NUMBER;
        }
        if (isForeign(slots[slot])) {
            return WRONG_ROLE;
        }
        if (slots[slot].isEmpty()) {
            return WRONG_FILLING;
        }
        slots[slot].clear();
        return 0;
    }

    public void zeroiseAll() {
        for (int i = 0; i < SLOTS; i++) {
            slots[i].clear();
        }
        officerPin.renew(OFFICER_PIN);
        userPin.renew(USER_PIN);
        generator.forget();
        words.forgetKept();
        if (loggedIn()) {
            endLogin();
        }
    }

    public int load(int slot, int kind, int usage, int role, int uses, int n) {
        int answer = newKeyRefusal(slot, kind, usage, role, uses, n);
        if (answer == 0) {
            slots[slot].fill(kind, usage, role, uses, buffer, 0, n);
        }
        return counted(answer);
    }

    public int make(int slot, int kind, int usage, int role, int uses, int n) {
        int answer = newKeyRefusal(slot, kind, usage, role, uses, n);
        if (answer == 0) {
            answer = drawn(secret, 0, n, 0) ? 0 : NO_ENTROPY;
        }
        if (answer == 0) {
            slots[slot].fill(kind, usage, role, uses, secret, 0, n);
            forgetSecret();
        }
        return counted(answer);
    }

    /** What load() and make() are refused for alike, or 0. */
    private int newKeyRefusal(int slot, int kind, int usage, int role, int uses, int n) {
        if (!loggedIn()) {
            return WRONG_STATE;
        }
        if (!isSlot(slot) || !isKind(kind) || !isUsage(usage) || !isRole(role)) {
            return WRONG_NUMBER;
        }
        if (uses < -1 || uses > MOST_USES || !isKeyLength(n)) {
            return WRONG_NUMBER;
        }
        if (state != OFFICER) {
            return WRONG_ROLE;
        }
        if (!slots[slot].isEmpty()) {
            return WRONG_FILLING;
        }
        return lengthFits(kind, n) ? 0 : WRONG_KEY;
    }

    public int derive(int slot, int from, int kind, int usage, int n, int m) {
        int answer = deriveRefusal(slot, from, kind, usage, n, m);
        if (answer == 0) {
            slots[from].takeUse();
            deriveBytes(slots[from], n, m);
            slots[slot].fill(kind, usage, holder(), -1, secret, 0, n);
            forgetSecret();
        }
        return counted(answer);
    }

    private int deriveRefusal(int slot, int from, int kind, int usage, int n, int m) {
        if (!loggedIn()) {
            return WRONG_STATE;
        }
        if (!isSlot(slot) || !isSlot(from) || !isKind(kind) || !isUsage(usage)) {
            return WRONG_NUMBER;
        }
        if (!isKeyLength(n) || m < 0 || m > LONGEST_EXTRA) {
            return WRONG_NUMBER;
        }
        Slot source = slots[from];
        if (isForeign(source)) {
            return WRONG_ROLE;
        }
        if (source.isEmpty() || !slots[slot].isEmpty()) {
            return WRONG_FILLING;
        }
        if (source.kind != MAC || !lengthFits(kind, n)) {
            return WRONG_KEY;
        }
        if (!source.allows(BIT_DERIVE)) {
            return WRONG_USAGE;
        }
        return source.uses == 0 ? NO_USES : 0;
    }

    private void deriveBytes(Slot source, int n, int m) {
        System.arraycopy(buffer, 0, message, 4, m);
        for (int done = 0; done < n; done += DIGEST) {
            putInt(message, 0, done / DIGEST + 1);
            sha.mac(source.key, source.length, message, 0, 4 + m, secret, done);
        }
    }

    public int wrap(int slot, int by) {
        return counted(wrapAnswer(slot, by));
    }

    private int wrapAnswer(int slot, int by) {
        if (!loggedIn()) {
            return WRONG_STATE;
        }
        if (!isSlot(slot) || !isSlot(by) || slot == by) {
            return WRONG_NUMBER;
        }
        int refusal = wrapKeysRefusal(slots[slot], slots[by]);
        if (refusal != 0) {
            return refusal;
        }
        return wrapBytes(slots[slot], slots[by]);
    }

    private int wrapKeysRefusal(Slot inner, Slot outer) {
        if (isForeign(inner) || isForeign(outer)) {
            return WRONG_ROLE;
        }
        if (inner.isEmpty() || outer.isEmpty()) {
            return WRONG_FILLING;
        }
        if (outer.kind != AES || inner.length % 8 != 0) {
            return WRONG_KEY;
        }
        if (!outer.allows(BIT_WRAP) || !inner.allows(BIT_EXPORT)) {
            return WRONG_USAGE;
        }
        return inner.uses == 0 || outer.uses == 0 ? NO_USES : 0;
    }

    private int wrapBytes(Slot inner, Slot outer) {
        inner.takeUse();
        outer.takeUse();
        int bytes = inner.length + 16;
        secret[8] = (byte) inner.kind;
        secret[9] = (byte) inner.usage;
        secret[10] = (byte) inner.role;
        Arrays.fill(secret, 11, 16, (byte) 0);
        System.arraycopy(inner.key, 0, secret, 16, inner.length);
        aes.setKey(outer.key, outer.length);
        modes.wrapIn(secret, bytes);
        System.arraycopy(secret, 0, buffer, 0, bytes);
        forgetSecret();
        return bytes;
    }

    public int unwrap(int slot, int by, int n) {
        return counted(unwrapAnswer(slot, by, n));
    }

    private int unwrapAnswer(int slot, int by, int n) {
        if (!loggedIn()) {
            return WRONG_STATE;
        }
        if (!isSlot(slot) || !isSlot(by)) {
            return WRONG_NUMBER;
        }
        if (n < SHORTEST_WRAPPED || n > LONGEST_WRAPPED || n % 8 != 0) {
            return WRONG_NUMBER;
        }
        Slot outer = slots[by];
        if (isForeign(outer)) {
            return WRONG_ROLE;
        }
        if (!slots[slot].isEmpty()) {
            return WRONG_FILLING;
        }
        int refusal = keyRefusal(outer, AES, BIT_WRAP);
        if (refusal != 0) {
            return refusal;
        }
        return unwrapBytes(slots[slot], outer, n);
    }

    private int unwrapBytes(Slot target, Slot outer, int n) {
        outer.takeUse();
        System.arraycopy(buffer, 0, secret, 0, n);
        aes.setKey(outer.key, outer.length);
        boolean right = modes.wrapOut(secret, n) && isWrappedHead(secret, n - 16);
        if (right) {
            target.fill(secret[8], secret[9], holder(), -1, secret, 16, n - 16);
        }
        forgetSecret();
        return right ? 0 : CHECK_FAILS;
    }

    /** Whether the bytes 8 to 15 are what wrap() puts before a key of this length. */
    private static boolean isWrappedHead(byte[] data, int length) {
        boolean zeros = true;
        for (int i = 11; i < 16; i++) {
            zeros = zeros && data[i] == 0;
        }
        return zeros && isKind(data[8]) && lengthFits(data[8], length)
                && isUsage(data[9]) && (data[9] & BIT_EXPORT) != 0 && isRole(data[10]);
    }

    public int run(int service, int slot, int at, int n, int m) {
        int answer = runRefusal(service, slot, at, n, m);
        if (answer == 0) {
            answer = served(service, slot, at, n, m);
        }
        return counted(answer);
    }

    /** What a service is refused for before its work is begun, or 0. */
    private int runRefusal(int service, int slot, int at, int n, int m) {
        if (!loggedIn()) {
            return WRONG_STATE;
        }
        boolean keyless = service == SHA || service == GENERATOR;
        if (!placesFit(service, at, n, m) || (!keyless && !isSlot(slot))) {
            return WRONG_NUMBER;
        }
        if (keyless) {
            return 0;
        }
        return keyRefusal(slots[slot], service == HMAC ? MAC : AES, bitFor(service));
    }

    /** Whether the service is one, and its place and lengths are as it needs them. */
    private static boolean placesFit(int service, int at, int n, int m) {
        if (!inBuffer(at, n) || m < 0 || m > LONGEST_EXTRA) {
            return false;
        }
        switch (service) {
            case ECB_SEAL:
            case ECB_OPEN:
                return m == 0 && n % BLOCK == 0;
            case CBC_SEAL:
            case CBC_OPEN:
                return m == 0 && n % BLOCK == 0 && n >= BLOCK;
            case CTR:
                return m == 0 && n >= BLOCK;
            case GCM_SEAL:
                return n >= NONCE + m && inBuffer(at, n + BLOCK);
            case GCM_OPEN:
                return n >= NONCE + m + BLOCK;
            case CMAC:
                return m == 0 && inBuffer(at, BLOCK);
            case SHA:
            case HMAC:
                return m == 0 && inBuffer(at, DIGEST);
            case GENERATOR:
                return n <= LONGEST_REQUEST;
            default:
                return false;
        }
    }

    private static int bitFor(int service) {
        switch (service) {
            case ECB_OPEN:
            case CBC_OPEN:
            case GCM_OPEN:
                return BIT_OPEN;
            case CMAC:
            case HMAC:
                return BIT_MAC;
            default:
                return BIT_SEAL;
        }
    }

    private int served(int service, int slot, int at, int n, int m) {
        switch (service) {
            case SHA:
                sha.begin();
                sha.take(buffer, at, n);
                sha.end(buffer, at);
                return DIGEST;
            case GENERATOR:
                return drawn(buffer, at, n, m) ? n : NO_ENTROPY;
            case HMAC:
                slots[slot].takeUse();
                sha.mac(slots[slot].key, slots[slot].length, buffer, at, n, buffer, at);
                return DIGEST;
            default:
                slots[slot].takeUse();
                aes.setKey(slots[slot].key, slots[slot].length);
                return servedByAes(service, at, n, m);
        }
    }

    private int servedByAes(int service, int at, int n, int m) {
        switch (service) {
            case ECB_SEAL:
                modes.ecbSeal(buffer, at, n);
                return n;
            case ECB_OPEN:
                modes.ecbOpen(buffer, at, n);
                return n;
            case CBC_SEAL:
                modes.cbcSeal(buffer, at, n);
                return n;
            case CBC_OPEN:
                modes.cbcOpen(buffer, at, n);
                return n;
            case CTR:
                modes.addStream(buffer, at, at + BLOCK, n - BLOCK);
                return n;
            case GCM_SEAL:
                gcm.sealText(buffer, at, m, n - NONCE - m);
                return n + BLOCK;
            case GCM_OPEN:
                return gcm.openText(buffer, at, m, n - NONCE - m - BLOCK) ? n - BLOCK : CHECK_FAILS;
            default:
                modes.cmac(buffer, at, n, buffer, at);
                return BLOCK;
        }
    }

    public int hash(int step, int at, int n) {
        return counted(hashAnswer(step, at, n));
    }

    private int hashAnswer(int step, int at, int n) {
        if (!loggedIn()) {
            return WRONG_STATE;
        }
        if (step < 0 || step > 2 || (step == 1 && !inBuffer(at, n)) || (step == 2 && !inBuffer(at, DIGEST))) {
            return WRONG_NUMBER;
        }
        if (step == 0) {
            stream.begin();
            streamBegun = true;
            return 0;
        }
        if (!streamBegun) {
            return WRONG_FILLING;
        }
        if (step == 1) {
            stream.take(buffer, at, n);
            return n;
        }
        // The digest is ended on a copy, because the stream goes on.
        sha.copyFrom(stream);
        sha.end(buffer, at);
        return DIGEST;
    }

    public int counter(int kind) throws IllegalArgumentException {
        if (kind < 0 || kind >= counters.length) {
            throw new IllegalArgumentException("no such counter");
        }
        return counters[kind];
    }

    public boolean same(int slot, int n) throws IllegalArgumentException {
        if (!isSlot(slot)) {
            throw new IllegalArgumentException("no such slot");
        }
        Slot asked = slots[slot];
        return !asked.isEmpty() && n == asked.length && alike(asked.key, 0, buffer, 0, n);
    }

    private int counted(int answer) {
        counters[answer < 0 ? REFUSED : ACCEPTED]++;
        return answer;
    }

    private boolean loggedIn() {
        return state == OFFICER || state == USER;
    }

    private int holder() {
        return state == OFFICER ? OFFICER_ROLE : USER_ROLE;
    }

    private Pin pinOf(int role) {
        return role == OFFICER_ROLE ? officerPin : userPin;
    }

    private boolean isForeign(Slot slot) {
        return !slot.isEmpty() && slot.role != holder();
    }

    /** What keeps a key from being used, or 0. */
    private int keyRefusal(Slot key, int kind, int bit) {
        if (isForeign(key)) {
            return WRONG_ROLE;
        }
        if (key.isEmpty()) {
            return WRONG_FILLING;
        }
        if (key.kind != kind) {
            return WRONG_KEY;
        }
        if (!key.allows(bit)) {
            return WRONG_USAGE;
        }
        return key.uses == 0 ? NO_USES : 0;
    }

    /** Answers one request to the generator, or changes nothing and says false. */
    private boolean drawn(byte[] out, int at, int n, int m) {
        int needed = generator.wordsNeeded();
        if (!words.canGive(needed)) {
            return false;
        }
        words.give(needed, secret);
        generator.feed(secret, 4 * needed);
        forgetSecret();
        // The answer may be written over the additional input, which is read once more after it.
        System.arraycopy(buffer, 0, message, 0, m);
        generator.answer(message, m, out, at, n);
        return true;
    }

    private void forgetSecret() {
        Arrays.fill(secret, (byte) 0);
    }

    private static boolean inBuffer(int at, int n) {
        return at >= 0 && at <= BUFFER_BYTES && n >= 0 && n <= BUFFER_BYTES - at;
    }

    private static boolean isSlot(int slot) {
        return slot >= 0 && slot < SLOTS;
    }

    private static boolean isRole(int role) {
        return role == OFFICER_ROLE || role == USER_ROLE;
    }

    private static boolean isKind(int kind) {
        return kind == AES || kind == MAC;
    }

    private static boolean isUsage(int usage) {
        return usage >= 0 && usage <= ALL_BITS;
    }

    private static boolean isKeyLength(int n) {
        return n >= 1 && n <= Slot.LONGEST_KEY;
    }

    private static boolean lengthFits(int kind, int n) {
        return kind == AES ? n == 16 || n == 32 : isKeyLength(n);
    }

    private static int intAt(byte[] data, int at) {
        return data[at] << 24 | (data[at + 1] & 255) << 16 | (data[at + 2] & 255) << 8 | data[at + 3] & 255;
    }

    private static void putInt(byte[] data, int at, int value) {
        data[at] = (byte) (value >>> 24);
        data[at + 1] = (byte) (value >>> 16);
        data[at + 2] = (byte) (value >>> 8);
        data[at + 3] = (byte) value;
    }

    private static long longAt(byte[] data, int at) {
        return (long) intAt(data, at) << 32 | intAt(data, at + 4) & 0xffffffffL;
    }

    private static void putLong(byte[] data, int at, long value) {
        putInt(data, at, (int) (value >>> 32));
        putInt(data, at + 4, (int) value);
    }

    private static boolean alike(byte[] one, int oneAt, byte[] other, int otherAt, int n) {
        int difference = 0;
        for (int i = 0; i < n; i++) {
            difference |= one[oneAt + i] ^ other[otherAt + i];
        }
        return difference == 0;
    }

    private static void xorBytes(byte[] from, int fromAt, byte[] into, int intoAt, int n) {
        for (int i = 0; i < n; i++) {
            into[intoAt + i] ^= from[fromAt + i];
        }
    }

    /** A place for one key; kind 0 says that it is empty. */
    private static final class Slot {
        static final int LONGEST_KEY = 64;

        final byte[] key = new byte[LONGEST_KEY];
        int kind = 0;
        int length = 0;
        int usage = 0;
        int role = 0;
        int uses = 0;

        boolean isEmpty() {
            return kind == 0;
        }

        boolean allows(int bit) {
            return (usage & bit) != 0;
        }

        void fill(int newKind, int newUsage, int newRole, int newUses, byte[] from, int at, int n) {
            kind = newKind;
            usage = newUsage;
            role = newRole;
            uses = newUses;
            length = n;
            System.arraycopy(from, at, key, 0, n);
        }

        void clear() {
            kind = 0;
            Arrays.fill(key, (byte) 0);
        }

        void takeUse() {
            if (uses > 0) {
                uses--;
            }
        }
    }

    /** A role's pin with the wrong tries since the last right one. */
    private static final class Pin {
        private static final int MOST_TRIES = 3;

        private int number;
        private int tries = 0;

        Pin(int first) {
            number = first;
        }

        boolean opens(int pin) {
            if (tries == MOST_TRIES) {
                return false;
            }
            tries = pin == number ? 0 : tries + 1;
            return pin == number;
        }

        void renew(int pin) {
            number = pin;
            tries = 0;
        }
    }

    /** The words of entropy that were not used, and the watch over their health. */
    private static final class Entropy {
        private static final int MOST_KEPT = 64;
        private static final int ROW_LIMIT = 4;
        private static final int WINDOW = 16;
        private static final int WINDOW_LIMIT = 6;

        private final int[] kept = new int[MOST_KEPT];
        private int count = 0;
        private boolean healthy = true;
        private int last = 0;
        private int row = 0;
        private int first = 0;
        private int placeInWindow = 0;
        private int timesInWindow = 0;

        void forgetKept() {
            Arrays.fill(kept, 0);
            count = 0;
        }

        void forgetAll() {
            forgetKept();
            healthy = true;
            row = 0;
            placeInWindow = 0;
            timesInWindow = 0;
        }

        boolean accepts(int word) {
            if (!healthy) {
                return false;
            }
            watchRow(word);
            watchWindow(word);
            if (row >= ROW_LIMIT || timesInWindow >= WINDOW_LIMIT) {
                healthy = false;
                return false;
            }
            if (count < MOST_KEPT) {
                kept[count] = word;
                count++;
            }
            return true;
        }

        private void watchRow(int word) {
            row = row > 0 && word == last ? row + 1 : 1;
            last = word;
        }

        private void watchWindow(int word) {
            if (placeInWindow == 0) {
                first = word;
                timesInWindow = 0;
            }
            if (word == first) {
                timesInWindow++;
            }
            placeInWindow = (placeInWindow + 1) % WINDOW;
        }

        boolean canGive(int needed) {
            return healthy && count >= needed;
        }

        /** Moves the oldest words out, as bytes; the caller has asked canGive before. */
        void give(int needed, byte[] out) {
            for (int i = 0; i < needed; i++) {
                putInt(out, 4 * i, kept[i]);
            }
            for (int i = needed; i < count; i++) {
                kept[i - needed] = kept[i];
            }
            count -= needed;
        }
    }

    /** HMAC_DRBG with SHA-256, by SP 800-90A. */
    private static final class Generator {
        private static final int WORDS_TO_BEGIN = 12;
        private static final int WORDS_TO_SEED = 8;
        private static final int REQUESTS_PER_SEED = 64;

        private final Sha256 sha;
        private final byte[] key = new byte[DIGEST];
        private final byte[] value = new byte[DIGEST];
        private final byte[] message = new byte[DIGEST + 1 + LONGEST_EXTRA];
        private boolean begun = false;
        private int requests = 0;

        Generator(Sha256 sha) {
            this.sha = sha;
        }

        void forget() {
            Arrays.fill(key, (byte) 0);
            Arrays.fill(value, (byte) 0);
            begun = false;
        }

        int wordsNeeded() {
            if (!begun) {
                return WORDS_TO_BEGIN;
            }
            return requests >= REQUESTS_PER_SEED ? WORDS_TO_SEED : 0;
        }

        /** Begins with the seed, or is seeded again with it; no seed changes nothing. */
        void feed(byte[] seed, int n) {
            if (n == 0) {
                return;
            }
            if (!begun) {
                Arrays.fill(key, (byte) 0);
                Arrays.fill(value, (byte) 1);
                begun = true;
            }
            update(seed, n);
            requests = 0;
        }

        void answer(byte[] extra, int m, byte[] out, int at, int n) {
            if (m > 0) {
                update(extra, m);
            }
            for (int done = 0; done < n; done += DIGEST) {
                sha.mac(key, DIGEST, value, 0, DIGEST, value, 0);
                System.arraycopy(value, 0, out, at + done, Math.min(DIGEST, n - done));
            }
            update(extra, m);
            requests++;
        }

        private void update(byte[] given, int n) {
            int rounds = n == 0 ? 1 : 2;
            for (int i = 0; i < rounds; i++) {
                System.arraycopy(value, 0, message, 0, DIGEST);
                message[DIGEST] = (byte) i;
                System.arraycopy(given, 0, message, DIGEST + 1, n);
                sha.mac(key, DIGEST, message, 0, DIGEST + 1 + n, key, 0);
                sha.mac(key, DIGEST, value, 0, DIGEST, value, 0);
            }
        }
    }

    /** SHA-256 by FIPS 180-4, and HMAC over it for keys of up to one block. */
    private static final class Sha256 {
        private static final int BLOCK_BYTES = 64;
        private static final int BLOCK_WORDS = 16;
        private static final int LENGTH_AT = 56;
        private static final int INNER_PAD = 0x36;
        private static final int OUTER_PAD = 0x5c;
        private static final int[] BEGINNING = {
            0x6a09e667, 0xbb67ae85, 0x3c6ef372, 0xa54ff53a, 0x510e527f, 0x9b05688c, 0x1f83d9ab, 0x5be0cd19,
        };
        private static final int[] CONSTANTS = {
            0x428a2f98, 0x71374491, 0xb5c0fbcf, 0xe9b5dba5, 0x3956c25b, 0x59f111f1, 0x923f82a4, 0xab1c5ed5,
            0xd807aa98, 0x12835b01, 0x243185be, 0x550c7dc3, 0x72be5d74, 0x80deb1fe, 0x9bdc06a7, 0xc19bf174,
            0xe49b69c1, 0xefbe4786, 0x0fc19dc6, 0x240ca1cc, 0x2de92c6f, 0x4a7484aa, 0x5cb0a9dc, 0x76f988da,
            0x983e5152, 0xa831c66d, 0xb00327c8, 0xbf597fc7, 0xc6e00bf3, 0xd5a79147, 0x06ca6351, 0x14292967,
            0x27b70a85, 0x2e1b2138, 0x4d2c6dfc, 0x53380d13, 0x650a7354, 0x766a0abb, 0x81c2c92e, 0x92722c85,
            0xa2bfe8a1, 0xa81a664b, 0xc24b8b70, 0xc76c51a3, 0xd192e819, 0xd6990624, 0xf40e3585, 0x106aa070,
            0x19a4c116, 0x1e376c08, 0x2748774c, 0x34b0bcb5, 0x391c0cb3, 0x4ed8aa4a, 0x5b9cca4f, 0x682e6ff3,
            0x748f82ee, 0x78a5636f, 0x84c87814, 0x8cc70208, 0x90befffa, 0xa4506ceb, 0xbef9a3f7, 0xc67178f2,
        };

        private final int[] sums = new int[8];
        // The block that is being filled is the first sixteen words of its schedule.
        private final int[] schedule = new int[64];
        private final byte[] inner = new byte[DIGEST];
        private int filled = 0;
        private int total = 0;

        void begin() {
            System.arraycopy(BEGINNING, 0, sums, 0, 8);
            filled = 0;
            total = 0;
        }

        void copyFrom(Sha256 other) {
            System.arraycopy(other.sums, 0, sums, 0, 8);
            System.arraycopy(other.schedule, 0, schedule, 0, BLOCK_WORDS);
            filled = other.filled;
            total = other.total;
        }

        void take(byte[] data, int at, int n) {
            for (int i = 0; i < n; i++) {
                int word = filled >> 2;
                schedule[word] = schedule[word] << 8 | data[at + i] & 255;
                filled++;
                if (filled == BLOCK_BYTES) {
                    compress();
                }
            }
            total += n;
        }

        void end(byte[] out, int at) {
            int word = filled >> 2;
            schedule[word] = (schedule[word] << 8 | 0x80) << 24 - 8 * (filled & 3);
            Arrays.fill(schedule, word + 1, BLOCK_WORDS, 0);
            if (filled >= LENGTH_AT) {
                compress();
                Arrays.fill(schedule, 0, BLOCK_WORDS, 0);
            }
            schedule[BLOCK_WORDS - 1] = 8 * total;
            compress();
            for (int i = 0; i < 8; i++) {
                putInt(out, at + 4 * i, sums[i]);
            }
        }

        /** HMAC; out may be the key or the data, as it is written last. */
        void mac(byte[] key, int length, byte[] data, int at, int n, byte[] out, int to) {
            begin();
            takePadded(key, length, INNER_PAD);
            take(data, at, n);
            end(inner, 0);
            begin();
            takePadded(key, length, OUTER_PAD);
            take(inner, 0, DIGEST);
            end(out, to);
        }

        private void takePadded(byte[] key, int length, int pad) {
            for (int i = 0; i < BLOCK_BYTES; i++) {
                int value = i < length ? key[i] & 255 : 0;
                schedule[i >> 2] = schedule[i >> 2] << 8 | value ^ pad;
            }
            compress();
            total = BLOCK_BYTES;
        }

        private void compress() {
            for (int i = BLOCK_WORDS; i < 64; i++) {
                int x = schedule[i - 15];
                int y = schedule[i - 2];
                int small = (x >>> 7 | x << 25) ^ (x >>> 18 | x << 14) ^ x >>> 3;
                int large = (y >>> 17 | y << 15) ^ (y >>> 19 | y << 13) ^ y >>> 10;
                schedule[i] = schedule[i - 16] + small + schedule[i - 7] + large;
            }
            int a = sums[0];
            int b = sums[1];
            int c = sums[2];
            int d = sums[3];
            int e = sums[4];
            int f = sums[5];
            int g = sums[6];
            int h = sums[7];
            for (int i = 0; i < 64; i++) {
                int turned = (e >>> 6 | e << 26) ^ (e >>> 11 | e << 21) ^ (e >>> 25 | e << 7);
                int one = h + turned + (e & f ^ ~e & g) + CONSTANTS[i] + schedule[i];
                turned = (a >>> 2 | a << 30) ^ (a >>> 13 | a << 19) ^ (a >>> 22 | a << 10);
                int two = turned + (a & b ^ a & c ^ b & c);
                h = g;
                g = f;
                f = e;
                e = d + one;
                d = c;
                c = b;
                b = a;
                a = one + two;
            }
            sums[0] += a;
            sums[1] += b;
            sums[2] += c;
            sums[3] += d;
            sums[4] += e;
            sums[5] += f;
            sums[6] += g;
            sums[7] += h;
            filled = 0;
        }
    }

    /** AES by FIPS 197; an int is a column of the state, its first row highest. */
    private static final class Aes {
        private static final int[] BOX = {
            0x63, 0x7c, 0x77, 0x7b, 0xf2, 0x6b, 0x6f, 0xc5, 0x30, 0x01, 0x67, 0x2b, 0xfe, 0xd7, 0xab, 0x76,
            0xca, 0x82, 0xc9, 0x7d, 0xfa, 0x59, 0x47, 0xf0, 0xad, 0xd4, 0xa2, 0xaf, 0x9c, 0xa4, 0x72, 0xc0,
            0xb7, 0xfd, 0x93, 0x26, 0x36, 0x3f, 0xf7, 0xcc, 0x34, 0xa5, 0xe5, 0xf1, 0x71, 0xd8, 0x31, 0x15,
            0x04, 0xc7, 0x23, 0xc3, 0x18, 0x96, 0x05, 0x9a, 0x07, 0x12, 0x80, 0xe2, 0xeb, 0x27, 0xb2, 0x75,
            0x09, 0x83, 0x2c, 0x1a, 0x1b, 0x6e, 0x5a, 0xa0, 0x52, 0x3b, 0xd6, 0xb3, 0x29, 0xe3, 0x2f, 0x84,
            0x53, 0xd1, 0x00, 0xed, 0x20, 0xfc, 0xb1, 0x5b, 0x6a, 0xcb, 0xbe, 0x39, 0x4a, 0x4c, 0x58, 0xcf,
            0xd0, 0xef, 0xaa, 0xfb, 0x43, 0x4d, 0x33, 0x85, 0x45, 0xf9, 0x02, 0x7f, 0x50, 0x3c, 0x9f, 0xa8,
            0x51, 0xa3, 0x40, 0x8f, 0x92, 0x9d, 0x38, 0xf5, 0xbc, 0xb6, 0xda, 0x21, 0x10, 0xff, 0xf3, 0xd2,
            0xcd, 0x0c, 0x13, 0xec, 0x5f, 0x97, 0x44, 0x17, 0xc4, 0xa7, 0x7e, 0x3d, 0x64, 0x5d, 0x19, 0x73,
            0x60, 0x81, 0x4f, 0xdc, 0x22, 0x2a, 0x90, 0x88, 0x46, 0xee, 0xb8, 0x14, 0xde, 0x5e, 0x0b, 0xdb,
            0xe0, 0x32, 0x3a, 0x0a, 0x49, 0x06, 0x24, 0x5c, 0xc2, 0xd3, 0xac, 0x62, 0x91, 0x95, 0xe4, 0x79,
            0xe7, 0xc8, 0x37, 0x6d, 0x8d, 0xd5, 0x4e, 0xa9, 0x6c, 0x56, 0xf4, 0xea, 0x65, 0x7a, 0xae, 0x08,
            0xba, 0x78, 0x25, 0x2e, 0x1c, 0xa6, 0xb4, 0xc6, 0xe8, 0xdd, 0x74, 0x1f, 0x4b, 0xbd, 0x8b, 0x8a,
            0x70, 0x3e, 0xb5, 0x66, 0x48, 0x03, 0xf6, 0x0e, 0x61, 0x35, 0x57, 0xb9, 0x86, 0xc1, 0x1d, 0x9e,
            0xe1, 0xf8, 0x98, 0x11, 0x69, 0xd9, 0x8e, 0x94, 0x9b, 0x1e, 0x87, 0xe9, 0xce, 0x55, 0x28, 0xdf,
            0x8c, 0xa1, 0x89, 0x0d, 0xbf, 0xe6, 0x42, 0x68, 0x41, 0x99, 0x2d, 0x0f, 0xb0, 0x54, 0xbb, 0x16,
        };
        private static final int[] BOX_BACK = {
            0x52, 0x09, 0x6a, 0xd5, 0x30, 0x36, 0xa5, 0x38, 0xbf, 0x40, 0xa3, 0x9e, 0x81, 0xf3, 0xd7, 0xfb,
            0x7c, 0xe3, 0x39, 0x82, 0x9b, 0x2f, 0xff, 0x87, 0x34, 0x8e, 0x43, 0x44, 0xc4, 0xde, 0xe9, 0xcb,
            0x54, 0x7b, 0x94, 0x32, 0xa6, 0xc2, 0x23, 0x3d, 0xee, 0x4c, 0x95, 0x0b, 0x42, 0xfa, 0xc3, 0x4e,
            0x08, 0x2e, 0xa1, 0x66, 0x28, 0xd9, 0x24, 0xb2, 0x76, 0x5b, 0xa2, 0x49, 0x6d, 0x8b, 0xd1, 0x25,
            0x72, 0xf8, 0xf6, 0x64, 0x86, 0x68, 0x98, 0x16, 0xd4, 0xa4, 0x5c, 0xcc, 0x5d, 0x65, 0xb6, 0x92,
            0x6c, 0x70, 0x48, 0x50, 0xfd, 0xed, 0xb9, 0xda, 0x5e, 0x15, 0x46, 0x57, 0xa7, 0x8d, 0x9d, 0x84,
            0x90, 0xd8, 0xab, 0x00, 0x8c, 0xbc, 0xd3, 0x0a, 0xf7, 0xe4, 0x58, 0x05, 0xb8, 0xb3, 0x45, 0x06,
            0xd0, 0x2c, 0x1e, 0x8f, 0xca, 0x3f, 0x0f, 0x02, 0xc1, 0xaf, 0xbd, 0x03, 0x01, 0x13, 0x8a, 0x6b,
            0x3a, 0x91, 0x11, 0x41, 0x4f, 0x67, 0xdc, 0xea, 0x97, 0xf2, 0xcf, 0xce, 0xf0, 0xb4, 0xe6, 0x73,
            0x96, 0xac, 0x74, 0x22, 0xe7, 0xad, 0x35, 0x85, 0xe2, 0xf9, 0x37, 0xe8, 0x1c, 0x75, 0xdf, 0x6e,
            0x47, 0xf1, 0x1a, 0x71, 0x1d, 0x29, 0xc5, 0x89, 0x6f, 0xb7, 0x62, 0x0e, 0xaa, 0x18, 0xbe, 0x1b,
            0xfc, 0x56, 0x3e, 0x4b, 0xc6, 0xd2, 0x79, 0x20, 0x9a, 0xdb, 0xc0, 0xfe, 0x78, 0xcd, 0x5a, 0xf4,
            0x1f, 0xdd, 0xa8, 0x33, 0x88, 0x07, 0xc7, 0x31, 0xb1, 0x12, 0x10, 0x59, 0x27, 0x80, 0xec, 0x5f,
            0x60, 0x51, 0x7f, 0xa9, 0x19, 0xb5, 0x4a, 0x0d, 0x2d, 0xe5, 0x7a, 0x9f, 0x93, 0xc9, 0x9c, 0xef,
            0xa0, 0xe0, 0x3b, 0x4d, 0xae, 0x2a, 0xf5, 0xb0, 0xc8, 0xeb, 0xbb, 0x3c, 0x83, 0x53, 0x99, 0x61,
            0x17, 0x2b, 0x04, 0x7e, 0xba, 0x77, 0xd6, 0x26, 0xe1, 0x69, 0x14, 0x63, 0x55, 0x21, 0x0c, 0x7d,
        };

        private final int[] keys = new int[60];
        private int rounds = 10;

        /** Takes a key of 16 or 32 bytes. */
        void setKey(byte[] key, int length) {
            int columns = length == 32 ? 8 : 4;
            rounds = columns + 6;
            for (int i = 0; i < columns; i++) {
                keys[i] = intAt(key, 4 * i);
            }
            int constant = 1 << 24;
            for (int i = columns; i < 4 * rounds + 4; i++) {
                int column = keys[i - 1];
                int place = i & columns - 1;
                if (place == 0) {
                    int turned = column << 8 | column >>> 24;
                    column = boxed(turned, turned, turned, turned) ^ constant;
                    constant = constant == 0x80 << 24 ? 0x1b << 24 : constant << 1;
                } else if (place == 4) {
                    column = boxed(column, column, column, column);
                }
                keys[i] = keys[i - columns] ^ column;
            }
        }

        void encrypt(byte[] data, int at) {
            int a = intAt(data, at) ^ keys[0];
            int b = intAt(data, at + 4) ^ keys[1];
            int c = intAt(data, at + 8) ^ keys[2];
            int d = intAt(data, at + 12) ^ keys[3];
            int end = 4 * rounds;
            for (int k = 4; k < end; k += 4) {
                int e = mixed(boxed(a, b, c, d)) ^ keys[k];
                int f = mixed(boxed(b, c, d, a)) ^ keys[k + 1];
                int g = mixed(boxed(c, d, a, b)) ^ keys[k + 2];
                int h = mixed(boxed(d, a, b, c)) ^ keys[k + 3];
                a = e;
                b = f;
                c = g;
                d = h;
            }
            putInt(data, at, boxed(a, b, c, d) ^ keys[end]);
            putInt(data, at + 4, boxed(b, c, d, a) ^ keys[end + 1]);
            putInt(data, at + 8, boxed(c, d, a, b) ^ keys[end + 2]);
            putInt(data, at + 12, boxed(d, a, b, c) ^ keys[end + 3]);
        }

        void decrypt(byte[] data, int at) {
            int end = 4 * rounds;
            int a = intAt(data, at) ^ keys[end];
            int b = intAt(data, at + 4) ^ keys[end + 1];
            int c = intAt(data, at + 8) ^ keys[end + 2];
            int d = intAt(data, at + 12) ^ keys[end + 3];
            for (int k = end - 4; k > 0; k -= 4) {
                int e = unmixed(unboxed(a, d, c, b) ^ keys[k]);
                int f = unmixed(unboxed(b, a, d, c) ^ keys[k + 1]);
                int g = unmixed(unboxed(c, b, a, d) ^ keys[k + 2]);
                int h = unmixed(unboxed(d, c, b, a) ^ keys[k + 3]);
                a = e;
                b = f;
                c = g;
                d = h;
            }
            putInt(data, at, unboxed(a, d, c, b) ^ keys[0]);
            putInt(data, at + 4, unboxed(b, a, d, c) ^ keys[1]);
            putInt(data, at + 8, unboxed(c, b, a, d) ^ keys[2]);
            putInt(data, at + 12, unboxed(d, c, b, a) ^ keys[3]);
        }

        /** One column after the boxes, of the columns that its rows come from. */
        private static int boxed(int row0, int row1, int row2, int row3) {
            return BOX[row0 >>> 24] << 24 | BOX[row1 >>> 16 & 255] << 16
                    | BOX[row2 >>> 8 & 255] << 8 | BOX[row3 & 255];
        }

        private static int unboxed(int row0, int row1, int row2, int row3) {
            return BOX_BACK[row0 >>> 24] << 24 | BOX_BACK[row1 >>> 16 & 255] << 16
                    | BOX_BACK[row2 >>> 8 & 255] << 8 | BOX_BACK[row3 & 255];
        }

        /** All four bytes are doubled at once; a row is 2, 3, 1, 1 times its column. */
        private static int mixed(int column) {
            int twice = (column & 0x7f7f7f7f) << 1 ^ (column >>> 7 & 0x01010101) * 0x1b;
            int thrice = twice ^ column;
            return twice ^ (thrice << 8 | thrice >>> 24) ^ (column << 16 | column >>> 16)
                    ^ (column << 24 | column >>> 8);
        }

        /** The way back is the mixing again, after 4 times each second row is added. */
        private static int unmixed(int column) {
            int sum = column ^ (column << 16 | column >>> 16);
            int fourfold = (sum & 0x3f3f3f3f) << 2 ^ (sum >>> 6 & 0x01010101) * 0x1b
                    ^ (sum >>> 7 & 0x01010101) * 0x36;
            return mixed(column ^ fourfold);
        }
    }

    /** The modes of AES over places of a row, with the key that was set last. */
    private static final class Modes {
        private static final long WRAP_CHECK = 0xa6a6a6a6a6a6a6a6L;
        private static final int WRAP_ROUNDS = 6;

        private final Aes aes;
        private final byte[] block = new byte[BLOCK];
        private final byte[] pad = new byte[BLOCK];

        Modes(Aes aes) {
            this.aes = aes;
        }

        void ecbSeal(byte[] data, int at, int n) {
            for (int i = 0; i < n; i += BLOCK) {
                aes.encrypt(data, at + i);
            }
        }

        void ecbOpen(byte[] data, int at, int n) {
            for (int i = 0; i < n; i += BLOCK) {
                aes.decrypt(data, at + i);
            }
        }

        void cbcSeal(byte[] data, int at, int n) {
            for (int i = BLOCK; i < n; i += BLOCK) {
                xorBytes(data, at + i - BLOCK, data, at + i, BLOCK);
                aes.encrypt(data, at + i);
            }
        }

        /** Goes from the end back, as each block needs the sealed one before it. */
        void cbcOpen(byte[] data, int at, int n) {
            for (int i = n - BLOCK; i > 0; i -= BLOCK) {
                aes.decrypt(data, at + i);
                xorBytes(data, at + i - BLOCK, data, at + i, BLOCK);
            }
        }

        /** Adds the stream of the counter that stands at a place of the same row. */
        void addStream(byte[] data, int counterAt, int at, int n) {
            System.arraycopy(data, counterAt, block, 0, BLOCK);
            addStreamOfBlock(data, at, n);
        }

        /** As GCM begins: the nonce, and a count of its blocks that has come to 2. */
        void addNonceStream(byte[] data, int nonceAt, int at, int n) {
            System.arraycopy(data, nonceAt, block, 0, NONCE);
            putInt(block, NONCE, 2);
            addStreamOfBlock(data, at, n);
        }

        private void addStreamOfBlock(byte[] data, int at, int n) {
            for (int i = 0; i < n; i += BLOCK) {
                System.arraycopy(block, 0, pad, 0, BLOCK);
                aes.encrypt(pad, 0);
                xorBytes(pad, 0, data, at + i, Math.min(BLOCK, n - i));
                countUp();
            }
        }

        private void countUp() {
            boolean carry = true;
            for (int i = BLOCK - 1; i >= 0 && carry; i--) {
                block[i]++;
                carry = block[i] == 0;
            }
        }

        void cmac(byte[] data, int at, int n, byte[] out, int to) {
            Arrays.fill(pad, (byte) 0);
            aes.encrypt(pad, 0);
            doublePad();
            Arrays.fill(block, (byte) 0);
            int i = 0;
            for (; n - i > BLOCK; i += BLOCK) {
                xorBytes(data, at + i, block, 0, BLOCK);
                aes.encrypt(block, 0);
            }
            xorBytes(data, at + i, block, 0, n - i);
            if (n - i < BLOCK) {
                doublePad();
                block[n - i] ^= (byte) 0x80;
            }
            xorBytes(pad, 0, block, 0, BLOCK);
            aes.encrypt(block, 0);
            System.arraycopy(block, 0, out, to, BLOCK);
        }

        private void doublePad() {
            long high = longAt(pad, 0);
            long low = longAt(pad, 8);
            putLong(pad, 0, high << 1 | low >>> 63);
            putLong(pad, 8, low << 1 ^ (high < 0 ? 0x87 : 0));
        }

        /** Wraps what stands from byte 8 on by RFC 3394; n counts the eight bytes before it too. */
        void wrapIn(byte[] data, int n) {
            putLong(block, 0, WRAP_CHECK);
            int step = 0;
            for (int round = 0; round < WRAP_ROUNDS; round++) {
                for (int at = 8; at < n; at += 8) {
                    step++;
                    System.arraycopy(data, at, block, 8, 8);
                    aes.encrypt(block, 0);
                    putLong(block, 0, longAt(block, 0) ^ step);
                    System.arraycopy(block, 8, data, at, 8);
                }
            }
            System.arraycopy(block, 0, data, 0, 8);
        }

        /** The way back of wrapIn: whether the check comes out. */
        boolean wrapOut(byte[] data, int n) {
            System.arraycopy(data, 0, block, 0, 8);
            int step = WRAP_ROUNDS * (n / 8 - 1);
            for (int round = 0; round < WRAP_ROUNDS; round++) {
                for (int at = n - 8; at > 0; at -= 8) {
                    putLong(block, 0, longAt(block, 0) ^ step);
                    System.arraycopy(data, at, block, 8, 8);
                    aes.decrypt(block, 0);
                    System.arraycopy(block, 8, data, at, 8);
                    step--;
                }
            }
            return longAt(block, 0) == WRAP_CHECK;
        }
    }

    /** GCM over a row that holds nonce, header, text and tag one behind the other. */
    private static final class Gcm {
        private static final long REDUCTION = 0xe1L << 56;

        private final Aes aes;
        private final Modes modes;
        private final byte[] tag = new byte[BLOCK];
        private long keyHigh = 0;
        private long keyLow = 0;
        private long sumHigh = 0;
        private long sumLow = 0;

        Gcm(Aes aes, Modes modes) {
            this.aes = aes;
            this.modes = modes;
        }

        void sealText(byte[] data, int at, int header, int text) {
            int textAt = at + NONCE + header;
            modes.addNonceStream(data, at, textAt, text);
            findTag(data, at, header, text);
            System.arraycopy(tag, 0, data, textAt + text, BLOCK);
        }

        /** Changes the text only when the tag behind it is right. */
        boolean openText(byte[] data, int at, int header, int text) {
            int textAt = at + NONCE + header;
            findTag(data, at, header, text);
            if (!alike(tag, 0, data, textAt + text, BLOCK)) {
                return false;
            }
            modes.addNonceStream(data, at, textAt, text);
            return true;
        }

        private void findTag(byte[] data, int at, int header, int text) {
            Arrays.fill(tag, (byte) 0);
            aes.encrypt(tag, 0);
            keyHigh = longAt(tag, 0);
            keyLow = longAt(tag, 8);
            sumHigh = 0;
            sumLow = 0;
            absorb(data, at + NONCE, header);
            absorb(data, at + NONCE + header, text);
            sumHigh ^= 8L * header;
            sumLow ^= 8L * text;
            multiply();
            System.arraycopy(data, at, tag, 0, NONCE);
            putInt(tag, NONCE, 1);
            aes.encrypt(tag, 0);
            putLong(tag, 0, longAt(tag, 0) ^ sumHigh);
            putLong(tag, 8, longAt(tag, 8) ^ sumLow);
        }

        private void absorb(byte[] data, int at, int n) {
            for (int i = 0; i < n; i += BLOCK) {
                sumHigh ^= paddedLong(data, at + i, n - i);
                sumLow ^= paddedLong(data, at + i + 8, n - i - 8);
                multiply();
            }
        }

        /** Eight bytes, those behind the n that are there taken as 0. */
        private static long paddedLong(byte[] data, int at, int n) {
            long value = 0;
            for (int i = 0; i < 8; i++) {
                value = value << 8 | (i < n ? data[at + i] & 255 : 0);
            }
            return value;
        }

        /** The sum times the key in the field of 2 to the 128, whose lowest power stands highest. */
        private void multiply() {
            long high = 0;
            long low = 0;
            long powerHigh = keyHigh;
            long powerLow = keyLow;
            for (int i = 0; i < 128; i++) {
                long bits = i < 64 ? sumHigh : sumLow;
                if ((bits << (i & 63)) < 0) {
                    high ^= powerHigh;
                    low ^= powerLow;
                }
                boolean over = (powerLow & 1) != 0;
                powerLow = powerLow >>> 1 | powerHigh << 63;
                powerHigh = powerHigh >>> 1 ^ (over ? REDUCTION : 0);
            }
            sumHigh = high;
            sumLow = low;
        }
    }

    /** The tests with known answers; a faulty one sees the first byte of its input wrong. */
    private static final class SelfTests {
        static final int COUNT = 10;

        private static final long[] COUNTING_KEY = {
            0x0001020304050607L, 0x08090a0b0c0d0e0fL, 0x1011121314151617L, 0x18191a1b1c1d1e1fL,
        };
        private static final long[] DOUBLED_DIGITS = {0x0011223344556677L, 0x8899aabbccddeeffL};
        private static final long[] AES_128_ANSWER = {0x69c4e0d86a7b0430L, 0xd8cdb78070b4c55aL};
        private static final long[] AES_256_ANSWER = {0x8ea2b7ca516745bfL, 0xeafc49904b496089L};
        private static final long[] MODES_KEY = {0x2b7e151628aed2a6L, 0xabf7158809cf4f3cL};
        private static final long[] MODES_TEXT = {
            0x6bc1bee22e409f96L, 0xe93d7e117393172aL, 0xae2d8a571e03ac9cL, 0x9eb76fac45af8e51L,
        };
        private static final long[] CBC_ANSWER = {
            0x7649abac8119b246L, 0xcee98e9b12e9197dL, 0x5086cb9b507219eeL, 0x95db113a917678b2L,
        };
        private static final long[] CTR_START = {0xf0f1f2f3f4f5f6f7L, 0xf8f9fafbfcfdfeffL};
        private static final long[] CTR_ANSWER = {
            0x874d6191b620e326L, 0x1bef6864990db6ceL, 0x9806f66b7970fdffL, 0x8617187bb9fffdffL,
        };
        private static final long[] ZEROS = {0, 0};
        private static final long[] GCM_ANSWER = {
            0x0388dace60b6a392L, 0xf328c2b971b2fe78L, 0xab6e47d42cec13bdL, 0xf53a67b21257bddfL,
        };
        private static final long[] CMAC_OF_NOTHING = {0xbb1d6929e9593728L, 0x7fa37d129b756746L};
        private static final long[] CMAC_OF_BLOCK = {0x070a16b46b4d4144L, 0xf79bdd9dd04a287cL};
        private static final long[] ABC = {0x6162630000000000L};
        private static final long[] ABC_DIGEST = {
            0xba7816bf8f01cfeaL, 0x414140de5dae2223L, 0xb00361a396177a9cL, 0xb410ff61f20015adL,
        };
        private static final long[] JEFE = {0x4a65666500000000L};
        private static final long[] WHAT_DO_YA_WANT = {
            0x7768617420646f20L, 0x79612077616e7420L, 0x666f72206e6f7468L, 0x696e673f00000000L,
        };
        private static final long[] HMAC_ANSWER = {
            0x5bdcc146bf60754eL, 0x6a042426089575c7L, 0x5a003f089d273983L, 0x9dec58b964ec3843L,
        };
        private static final long[] WRAP_ANSWER = {
            0x1fa68b0a8112b447L, 0xaef34bd8fb5a7b82L, 0x9d3e862371d2cfe5L,
        };

        private final Aes aes;
        private final Modes modes;
        private final Gcm gcm;
        private final Sha256 sha;
        private final Generator generator;
        private final byte[] key = new byte[DIGEST];
        private final byte[] work = new byte[64];

        SelfTests(Aes aes, Modes modes, Gcm gcm, Sha256 sha) {
            this.aes = aes;
            this.modes = modes;
            this.gcm = gcm;
            this.sha = sha;
            generator = new Generator(sha);
        }

        boolean comesRight(int test, boolean faulty) {
            int wrong = faulty ? 1 : 0;
            switch (test) {
                case 0:
                    return aesRight(16, AES_128_ANSWER, wrong);
                case 1:
                    return aesRight(32, AES_256_ANSWER, wrong);
                case 2:
                    return cbcRight(wrong);
                case 3:
                    return ctrRight(wrong);
                case 4:
                    return gcmRight(wrong);
                case 5:
                    return cmacRight(0, CMAC_OF_NOTHING, 0) && cmacRight(BLOCK, CMAC_OF_BLOCK, wrong);
                case 6:
                    return shaRight(wrong);
                case 7:
                    return hmacRight(wrong);
                case 8:
                    return wrapRight(wrong);
                default:
                    drawOnce(0, key);
                    drawOnce(wrong, work);
                    return alike(key, 0, work, 0, DIGEST);
            }
        }

        private boolean aesRight(int length, long[] answer, int wrong) {
            setKey(COUNTING_KEY, length);
            put(DOUBLED_DIGITS, 0);
            work[0] ^= wrong;
            aes.encrypt(work, 0);
            boolean right = stands(answer, 0);
            aes.decrypt(work, 0);
            return right && stands(DOUBLED_DIGITS, 0);
        }

        private boolean cbcRight(int wrong) {
            setKey(MODES_KEY, 16);
            put(COUNTING_KEY, 0);
            put(MODES_TEXT, BLOCK);
            work[BLOCK] ^= wrong;
            modes.cbcSeal(work, 0, 3 * BLOCK);
            return stands(CBC_ANSWER, BLOCK);
        }

        private boolean ctrRight(int wrong) {
            setKey(MODES_KEY, 16);
            put(CTR_START, 0);
            put(MODES_TEXT, BLOCK);
            work[BLOCK] ^= wrong;
            modes.addStream(work, 0, BLOCK, 2 * BLOCK);
            return stands(CTR_ANSWER, BLOCK);
        }

        private boolean gcmRight(int wrong) {
            setKey(ZEROS, 16);
            Arrays.fill(work, (byte) 0);
            work[NONCE] ^= wrong;
            gcm.sealText(work, 0, 0, BLOCK);
            return stands(GCM_ANSWER, NONCE);
        }

        private boolean cmacRight(int n, long[] answer, int wrong) {
            setKey(MODES_KEY, 16);
            put(MODES_TEXT, 0);
            work[0] ^= wrong;
            modes.cmac(work, 0, n, work, 0);
            return stands(answer, 0);
        }

        private boolean shaRight(int wrong) {
            put(ABC, 0);
            work[0] ^= wrong;
            sha.begin();
            sha.take(work, 0, 3);
            sha.end(work, 0);
            return stands(ABC_DIGEST, 0);
        }

        private boolean hmacRight(int wrong) {
            putLong(key, 0, JEFE[0]);
            put(WHAT_DO_YA_WANT, 0);
            work[0] ^= wrong;
            sha.mac(key, 4, work, 0, 28, work, 0);
            return stands(HMAC_ANSWER, 0);
        }

        private boolean wrapRight(int wrong) {
            setKey(COUNTING_KEY, 16);
            put(DOUBLED_DIGITS, 8);
            work[8] ^= wrong;
            modes.wrapIn(work, 24);
            return stands(WRAP_ANSWER, 0);
        }

        private void drawOnce(int wrong, byte[] out) {
            put(COUNTING_KEY, 0);
            put(DOUBLED_DIGITS, DIGEST);
            work[0] ^= wrong;
            generator.forget();
            generator.feed(work, DIGEST + BLOCK);
            generator.answer(work, 0, out, 0, DIGEST);
        }

        private void setKey(long[] from, int length) {
            for (int i = 0; 8 * i < length; i++) {
                putLong(key, 8 * i, from[i]);
            }
            aes.setKey(key, length);
        }

        private void put(long[] from, int at) {
            for (int i = 0; i < from.length; i++) {
                putLong(work, at + 8 * i, from[i]);
            }
        }

        private boolean stands(long[] answer, int at) {
            boolean right = true;
            for (int i = 0; i < answer.length; i++) {
                right = right && longAt(work, at + 8 * i) == answer[i];
            }
            return right;
        }
    }
}
