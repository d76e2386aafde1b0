/**
 * A boot chain that measures what it starts: two stages in two slots each, sealed images, a record
 * that outlives any loss of power, counters against old versions, registers, quotes and updates.
 *
 * <p>No call makes an object of its own but for the exception it throws: all rows are made once, in
 * the constructors, and used again.
 */
public final class BootChain {
    private static final int STAGES = 2;
    private static final int SLOTS = 4;
    private static final int SLOT_WORDS = 16;
    private static final int RECORDS = 2;
    private static final int RECORD_WORDS = 3;
    private static final int HASH_WORDS = 8;
    private static final int KEY_WORDS = 4;
    private static final int QUOTE_KEY = 9;
    private static final int MOST_PAYLOAD_BYTES = 24;
    private static final int MOST_APPENDED_BYTES = 8;
    private static final int MOST_VERSION = 255;
    private static final int MOST_HASHED_WORDS = 24;
    private static final int MOST_WRITES = 1000;
    private static final int ANY_NUMBER = -1;
    private static final int TRIES_OF_AN_UPDATE = 3;
    private static final int NONE = -1;
    private static final int POWER_LOST = -2;

    private final Flash store;
    private final Draft draft;
    private final Image image;
    private final Sha256 sha;
    private final int[] runningSlots;
    private final int[] counters;
    private final int[] registers;
    private final int[] hashed;

    public BootChain() {
        store = new Flash();
        draft = new Draft();
        image = new Image();
        sha = new Sha256();
        runningSlots = new int[] {NONE, NONE};
        counters = new int[STAGES];
        registers = new int[STAGES * HASH_WORDS];
        hashed = new int[HASH_WORDS];
    }

    public void payload(long bytes, int n) throws IllegalArgumentException, IllegalStateException {
        if (n < 1 || n > MOST_APPENDED_BYTES) {
            throw new IllegalArgumentException("n is not 1 .. 8");
        }
        if (!draft.hasRoomFor(n)) {
            throw new IllegalStateException("a payload has at most 24 bytes");
        }
        draft.append(bytes, n);
    }

    public int update(int stage, int version, int flaw)
            throws IllegalArgumentException, IllegalStateException {
        boolean known = isStage(stage) && version >= 0 && version <= MOST_VERSION;
        if (known) {
            composeImage(stage, version, flaw);
        }
        draft.clear();
        if (!known) {
            throw new IllegalArgumentException("no such stage or version");
        }
        int state = store.heldState();
        int slot = StateBits.otherSlot(state, stage);
        if (runningSlots[stage] == slot) {
            turnOff();
        }
        int tried = StateBits.withTrial(state, stage, TRIES_OF_AN_UPDATE);
        if (!image.writeTo(store, slot) || !store.writeRecord(tried)) {
            turnOff();
            throw new IllegalStateException("the power is lost");
        }
        return slot;
    }

    public void power(int words) throws IllegalArgumentException {
        if (words < ANY_NUMBER || words > MOST_WRITES) {
            throw new IllegalArgumentException("words is not -1 .. 1000");
        }
        store.allowWrites(words);
    }

    public int boot() throws IllegalStateException {
        turnOff();
        for (int stage = 0; stage < STAGES; stage++) {
            int slot = slotOnTrial(stage);
            if (slot == NONE) {
                slot = slotWithoutTrial(stage);
            }
            if (slot == POWER_LOST) {
                turnOff();
                throw new IllegalStateException("the power is lost");
            }
            if (slot == NONE) {
                return stage + 1;
            }
            start(stage, slot);
        }
        return 0;
    }

    public void confirm() throws IllegalStateException, UnsupportedOperationException {
        if (!bothStagesRun()) {
            throw new IllegalStateException("not both stages run");
        }
        int state = store.heldState();
        int confirmed = confirmTrials(state);
        if (confirmed != state && !store.writeRecord(confirmed)) {
            turnOff();
            throw new UnsupportedOperationException("the power is lost");
        }
        raiseCounters();
    }

    public int runs(int stage) throws IllegalArgumentException {
        if (!isStage(stage)) {
            throw new IllegalArgumentException("no such stage");
        }
        return runningSlots[stage];
    }

    public void spoil(int place, int word, int bits) throws IllegalArgumentException {
        if (!Flash.hasWord(place, word)) {
            throw new IllegalArgumentException("no such word of the flash");
        }
        store.turnOver(place, word, bits);
    }

    public int flash(int place, int word) throws IllegalArgumentException {
        if (!Flash.hasWord(place, word)) {
            throw new IllegalArgumentException("no such word of the flash");
        }
        return store.read(place, word);
    }

    public int state() {
        return store.heldState();
    }

    public int counter(int stage) throws IllegalArgumentException {
        if (!isStage(stage)) {
            throw new IllegalArgumentException("no such stage");
        }
        return counters[stage];
    }

    public int register(int stage, int word) throws IllegalArgumentException {
        if (!isStage(stage) || !isHashWord(word)) {
            throw new IllegalArgumentException("no such word of a register");
        }
        return registers[HASH_WORDS * stage + word];
    }

    public int quote(int nonce, int word) throws IllegalArgumentException, IllegalStateException {
        if (!isHashWord(word)) {
            throw new IllegalArgumentException("no such word of a quote");
        }
        if (!bothStagesRun()) {
            throw new IllegalStateException("not both stages run");
        }
        sha.begin();
        sha.addCounting(QUOTE_KEY, KEY_WORDS);
        sha.addRow(registers, 0, STAGES * HASH_WORDS);
        sha.add(nonce);
        sha.finish(hashed, 0);
        return hashed[word];
    }

    public int hash(int first, int words, int word) throws IllegalArgumentException {
        if (words < 0 || words > MOST_HASHED_WORDS || !isHashWord(word)) {
            throw new IllegalArgumentException("words is not 0 .. 24, or word not 0 .. 7");
        }
        sha.begin();
        sha.addCounting(first, words);
        sha.finish(hashed, 0);
        return hashed[word];
    }

    private static boolean isStage(int stage) {
        return stage >= 0 && stage < STAGES;
    }

    private static boolean isHashWord(int word) {
        return word >= 0 && word < HASH_WORDS;
    }

    private boolean bothStagesRun() {
        return runningSlots[0] != NONE && runningSlots[1] != NONE;
    }

    private void turnOff() {
        for (int stage = 0; stage < STAGES; stage++) {
            runningSlots[stage] = NONE;
        }
        for (int i = 0; i < STAGES * HASH_WORDS; i++) {
            registers[i] = 0;
        }
    }

    private void composeImage(int stage, int version, int flaw) {
        image.compose(stage, version, draft);
        image.sealInto(hashed, stage, sha);
        image.bear(hashed);
        image.turnOverLastWord(flaw);
    }

    /** The slot on trial, when that is to run; NONE, or POWER_LOST. Writes what the trial costs. */
    private int slotOnTrial(int stage) {
        int state = store.heldState();
        if (!StateBits.onTrial(state, stage)) {
            return NONE;
        }
        int tries = StateBits.triesLeft(state, stage);
        if (tries > 0) {
            int slot = StateBits.otherSlot(state, stage);
            if (!store.writeRecord(StateBits.withTrial(state, stage, tries - 1))) {
                return POWER_LOST;
            }
            if (isGood(slot, stage)) {
                return slot;
            }
        }
        return store.writeRecord(StateBits.withoutTrial(state, stage)) ? NONE : POWER_LOST;
    }

    /** The active slot, or else the other, of which no record is made; NONE if neither is good. */
    private int slotWithoutTrial(int stage) {
        int state = store.heldState();
        int active = StateBits.activeSlot(state, stage);
        if (isGood(active, stage)) {
            return active;
        }
        int other = StateBits.otherSlot(state, stage);
        return isGood(other, stage) ? other : NONE;
    }

    private boolean isGood(int slot, int stage) {
        image.load(store, slot);
        if (!image.hasFormOf(stage) || image.version() < counters[stage]) {
            return false;
        }
        image.sealInto(hashed, stage, sha);
        return image.bears(hashed);
    }

    private void start(int stage, int slot) {
        runningSlots[stage] = slot;
        image.load(store, slot);
        image.digestInto(hashed, sha);
        sha.begin();
        sha.addRow(registers, HASH_WORDS * stage, HASH_WORDS);
        sha.addRow(hashed, 0, HASH_WORDS);
        sha.finish(registers, HASH_WORDS * stage);
    }

    private int confirmTrials(int state) {
        int confirmed = state;
        for (int stage = 0; stage < STAGES; stage++) {
            boolean runsOther = runningSlots[stage] == StateBits.otherSlot(state, stage);
            if (runsOther && StateBits.onTrial(state, stage)) {
                confirmed = StateBits.withOtherActive(confirmed, stage);
            }
        }
        return confirmed;
    }

    private void raiseCounters() {
        for (int stage = 0; stage < STAGES; stage++) {
            int version = Image.versionToldBy(store.read(runningSlots[stage], 0));
            if (version > counters[stage]) {
                counters[stage] = version;
            }
        }
    }

    /** What the four bits of each stage in a record's state mean; all other bits are left alone. */
    private static final class StateBits {
        private static final int STAGE_BITS = 4;
        private static final int ACTIVE = 1;
        private static final int TRIAL = 2;
        private static final int TRIES_SHIFT = 2;
        private static final int MOST_TRIES = 3;
        private static final int TRIAL_AND_TRIES = TRIAL | MOST_TRIES << TRIES_SHIFT;

        static int activeSlot(int state, int stage) {
            return 2 * stage + (state >>> STAGE_BITS * stage & ACTIVE);
        }

        static int otherSlot(int state, int stage) {
            return activeSlot(state, stage) ^ 1;
        }

        static boolean onTrial(int state, int stage) {
            return (state >>> STAGE_BITS * stage & TRIAL) != 0;
        }

        static int triesLeft(int state, int stage) {
            return state >>> STAGE_BITS * stage + TRIES_SHIFT & MOST_TRIES;
        }

        static int withoutTrial(int state, int stage) {
            return state & ~(TRIAL_AND_TRIES << STAGE_BITS * stage);
        }

        static int withTrial(int state, int stage, int tries) {
            int bits = TRIAL | tries << TRIES_SHIFT;
            return withoutTrial(state, stage) | bits << STAGE_BITS * stage;
        }

        static int withOtherActive(int state, int stage) {
            return withoutTrial(state, stage) ^ ACTIVE << STAGE_BITS * stage;
        }
    }

    /** The words that outlive a loss of power, and how many of them can still be written. */
    private static final class Flash {
        private static final int SERIAL = 0;
        private static final int STATE = 1;
        private static final int SUM = 2;

        private final int[] words = new int[SLOTS * SLOT_WORDS + RECORDS * RECORD_WORDS];
        private int writesLeft = ANY_NUMBER;

        static boolean hasWord(int place, int word) {
            if (place < 0 || place >= SLOTS + RECORDS || word < 0) {
                return false;
            }
            return word < (place < SLOTS ? SLOT_WORDS : RECORD_WORDS);
        }

        private static int indexOf(int place, int word) {
            if (place < SLOTS) {
                return SLOT_WORDS * place + word;
            }
            return SLOT_WORDS * SLOTS + RECORD_WORDS * (place - SLOTS) + word;
        }

        void allowWrites(int writes) {
            writesLeft = writes;
        }

        int read(int place, int word) {
            return words[indexOf(place, word)];
        }

        void turnOver(int place, int word, int bits) {
            words[indexOf(place, word)] ^= bits;
        }

        /** Whether the power lasted for this word. */
        boolean write(int place, int word, int value) {
            if (writesLeft == 0) {
                return false;
            }
            if (writesLeft != ANY_NUMBER) {
                writesLeft--;
            }
            words[indexOf(place, word)] = value;
            return true;
        }

        int heldState() {
            int record = heldRecord();
            return record == NONE ? 0 : read(SLOTS + record, STATE);
        }

        /**
         * Whether the power lasted. The sum is cleared first, so that a record that is only half
         * written does not pass for a whole one.
         */
        boolean writeRecord(int state) {
            int held = heldRecord();
            int serial = held == NONE ? 1 : read(SLOTS + held, SERIAL) + 1;
            int place = held == 0 ? SLOTS + 1 : SLOTS;
            return write(place, SUM, 0)
                    && write(place, SERIAL, serial)
                    && write(place, STATE, state)
                    && write(place, SUM, sumOf(serial, state));
        }

        private int heldRecord() {
            boolean firstValid = isValid(SLOTS);
            boolean secondValid = isValid(SLOTS + 1);
            if (firstValid && secondValid) {
                return serialOf(SLOTS + 1) > serialOf(SLOTS) ? 1 : 0;
            }
            if (firstValid) {
                return 0;
            }
            return secondValid ? 1 : NONE;
        }

        private boolean isValid(int place) {
            return read(place, SUM) == sumOf(read(place, SERIAL), read(place, STATE));
        }

        /** A long, since a serial counts from 0 on and has no sign. */
        private long serialOf(int place) {
            return read(place, SERIAL) & 0xFFFFFFFFL;
        }

        private static int sumOf(int serial, int state) {
            return 31 * serial + state + 12345;
        }
    }

    /** The payload that the next update takes, four bytes a word, the highest first. */
    private static final class Draft {
        private final int[] words = new int[MOST_PAYLOAD_BYTES / 4];
        private int length;

        boolean hasRoomFor(int n) {
            return length + n <= MOST_PAYLOAD_BYTES;
        }

        void append(long bytes, int n) {
            for (int i = n - 1; i >= 0 && length < MOST_PAYLOAD_BYTES; i--) {
                int octet = (int) (bytes >>> 8 * i) & 255;
                words[length / 4] |= octet << 24 - 8 * (length % 4);
                length++;
            }
        }

        void clear() {
            length = 0;
            for (int i = 0; i < words.length; i++) {
                words[i] = 0;
            }
        }
    }

    /** A slot's sixteen words on their way into the flash or out of it. */
    private static final class Image {
        private static final int MEASURED_WORDS = 7;
        private static final int SPARE = 7;
        private static final int SEAL = 8;

        private final int[] words = new int[SLOT_WORDS];

        static int versionToldBy(int head) {
            return head >>> 8 & MOST_VERSION;
        }

        /** Leaves the seal as it was: it can be told only when these words stand. */
        void compose(int stage, int version, Draft draft) {
            words[0] = 65536 * stage + 256 * version + draft.length;
            for (int i = 0; i < draft.words.length; i++) {
                words[1 + i] = draft.words[i];
            }
            words[SPARE] = 0;
        }

        void load(Flash store, int slot) {
            for (int i = 0; i < SLOT_WORDS; i++) {
                words[i] = store.read(slot, i);
            }
        }

        /** Whether the power lasted. */
        boolean writeTo(Flash store, int slot) {
            for (int i = 0; i < SLOT_WORDS; i++) {
                if (!store.write(slot, i, words[i])) {
                    return false;
                }
            }
            return true;
        }

        int version() {
            return versionToldBy(words[0]);
        }

        /** Whether all but the seal is as in an image of the stage. */
        boolean hasFormOf(int stage) {
            int length = words[0] & 255;
            return words[0] >>> 16 == stage
                    && length <= MOST_PAYLOAD_BYTES
                    && hasZerosBehind(length)
                    && words[SPARE] == 0;
        }

        private boolean hasZerosBehind(int length) {
            for (int i = length; i < MOST_PAYLOAD_BYTES; i++) {
                if ((words[1 + i / 4] >>> 24 - 8 * (i % 4) & 255) != 0) {
                    return false;
                }
            }
            return true;
        }

        void sealInto(int[] target, int stage, Sha256 sha) {
            int key = KEY_WORDS * stage + 1;
            sha.begin();
            sha.addCounting(key, KEY_WORDS);
            sha.addRow(words, 0, MEASURED_WORDS);
            sha.addCounting(key, KEY_WORDS);
            sha.finish(target, 0);
        }

        void digestInto(int[] target, Sha256 sha) {
            sha.begin();
            sha.addRow(words, 0, MEASURED_WORDS);
            sha.finish(target, 0);
        }

        void bear(int[] seal) {
            for (int i = 0; i < HASH_WORDS; i++) {
                words[SEAL + i] = seal[i];
            }
        }

        boolean bears(int[] seal) {
            for (int i = 0; i < HASH_WORDS; i++) {
                if (words[SEAL + i] != seal[i]) {
                    return false;
                }
            }
            return true;
        }

        void turnOverLastWord(int bits) {
            words[SLOT_WORDS - 1] ^= bits;
        }
    }

    /** SHA-256 of a row of at most 24 words: begin, add, finish. */
    private static final class Sha256 {
        private static final int BLOCK_WORDS = 16;
        private static final int ROUNDS = 64;
        private static final int[] START = {
            0x6a09e667, 0xbb67ae85, 0x3c6ef372, 0xa54ff53a,
            0x510e527f, 0x9b05688c, 0x1f83d9ab, 0x5be0cd19
        };
        private static final int[] ROUND_WORDS = {
            0x428a2f98, 0x71374491, 0xb5c0fbcf, 0xe9b5dba5,
            0x3956c25b, 0x59f111f1, 0x923f82a4, 0xab1c5ed5,
            0xd807aa98, 0x12835b01, 0x243185be, 0x550c7dc3,
            0x72be5d74, 0x80deb1fe, 0x9bdc06a7, 0xc19bf174,
            0xe49b69c1, 0xefbe4786, 0x0fc19dc6, 0x240ca1cc,
            0x2de92c6f, 0x4a7484aa, 0x5cb0a9dc, 0x76f988da,
            0x983e5152, 0xa831c66d, 0xb00327c8, 0xbf597fc7,
            0xc6e00bf3, 0xd5a79147, 0x06ca6351, 0x14292967,
            0x27b70a85, 0x2e1b2138, 0x4d2c6dfc, 0x53380d13,
            0x650a7354, 0x766a0abb, 0x81c2c92e, 0x92722c85,
            0xa2bfe8a1, 0xa81a664b, 0xc24b8b70, 0xc76c51a3,
            0xd192e819, 0xd6990624, 0xf40e3585, 0x106aa070,
            0x19a4c116, 0x1e376c08, 0x2748774c, 0x34b0bcb5,
            0x391c0cb3, 0x4ed8aa4a, 0x5b9cca4f, 0x682e6ff3,
            0x748f82ee, 0x78a5636f, 0x84c87814, 0x8cc70208,
            0x90befffa, 0xa4506ceb, 0xbef9a3f7, 0xc67178f2
        };

        private final int[] message = new int[2 * BLOCK_WORDS];
        private final int[] schedule = new int[ROUNDS];
        private final int[] chained = new int[HASH_WORDS];
        private int length;

        void begin() {
            length = 0;
        }

        void add(int word) {
            // No row of the document is longer; the test keeps the index within two blocks.
            if (length < MOST_HASHED_WORDS) {
                message[length] = word;
                length++;
            }
        }

        void addRow(int[] row, int from, int count) {
            for (int i = 0; i < count; i++) {
                add(row[from + i]);
            }
        }

        void addCounting(int first, int count) {
            for (int i = 0; i < count; i++) {
                add(first + i);
            }
        }

        void finish(int[] target, int from) {
            int end = padMessage();
            for (int i = 0; i < HASH_WORDS; i++) {
                chained[i] = START[i];
            }
            for (int block = 0; block < end; block += BLOCK_WORDS) {
                fillSchedule(block);
                foldSchedule();
            }
            for (int i = 0; i < HASH_WORDS; i++) {
                target[from + i] = chained[i];
            }
        }

        /** How many words the padded message has. */
        private int padMessage() {
            // One word for the closing bit and two for the length stand behind the message.
            int end = length + 3 <= BLOCK_WORDS ? BLOCK_WORDS : 2 * BLOCK_WORDS;
            message[length] = 0x80000000;
            for (int i = length + 1; i < end - 1; i++) {
                message[i] = 0;
            }
            message[end - 1] = 32 * length;
            return end;
        }

        private void fillSchedule(int block) {
            for (int i = 0; i < BLOCK_WORDS; i++) {
                schedule[i] = message[block + i];
            }
            for (int i = BLOCK_WORDS; i < ROUNDS; i++) {
                int early = schedule[i - 15];
                int late = schedule[i - 2];
                int earlyMix = turn(early, 7) ^ turn(early, 18) ^ early >>> 3;
                int lateMix = turn(late, 17) ^ turn(late, 19) ^ late >>> 10;
                schedule[i] = schedule[i - 16] + earlyMix + schedule[i - 7] + lateMix;
            }
        }

        private void foldSchedule() {
            int a = chained[0];
            int b = chained[1];
            int c = chained[2];
            int d = chained[3];
            int e = chained[4];
            int f = chained[5];
            int g = chained[6];
            int h = chained[7];
            for (int i = 0; i < ROUNDS; i++) {
                int choice = e & f ^ ~e & g;
                int majority = a & b ^ a & c ^ b & c;
                int lower = turn(e, 6) ^ turn(e, 11) ^ turn(e, 25);
                int upper = turn(a, 2) ^ turn(a, 13) ^ turn(a, 22);
                int step = h + lower + choice + ROUND_WORDS[i] + schedule[i];
                h = g;
                g = f;
                f = e;
                e = d + step;
                d = c;
                c = b;
                b = a;
                a = step + upper + majority;
            }
            chained[0] += a;
            chained[1] += b;
            chained[2] += c;
            chained[3] += d;
            chained[4] += e;
            chained[5] += f;
            chained[6] += g;
            chained[7] += h;
        }

        private static int turn(int word, int places) {
            return word >>> places | word << 32 - places;
        }
    }
}
