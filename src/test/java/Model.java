import java.nio.ByteBuffer;
import java.util.Arrays;

/**
 * The document a second time, for comparison: with fields in place of bits, bytes in place of
 * words, and an exception in place of each loss of power.
 */
final class Model {
    private static final class PowerLost extends Exception {
        private static final long serialVersionUID = 1L;
    }

    private static final class Held {
        boolean valid;
        int record;
        long serial;
        int state;
    }

    final int[][] places = {
        new int[16], new int[16], new int[16], new int[16], new int[3], new int[3]
    };
    final int[] counters = new int[2];
    final int[] runs = {-1, -1};
    final int[][] registers = {new int[8], new int[8]};
    private byte[] draft = {};
    private long power = Long.MAX_VALUE;

    void payload(long bytes, int n) {
        if (n < 1 || n > 8) {
            throw new IllegalArgumentException();
        }
        if (draft.length + n > 24) {
            throw new IllegalStateException();
        }
        byte[] all = ByteBuffer.allocate(8).putLong(bytes).array();
        int old = draft.length;
        draft = Arrays.copyOf(draft, old + n);
        System.arraycopy(all, 8 - n, draft, old, n);
    }

    int update(int stage, int version, int flaw) {
        byte[] bytes = draft;
        draft = new byte[0];
        if (stage < 0 || stage > 1 || version < 0 || version > 255) {
            throw new IllegalArgumentException();
        }
        int[] payload = new int[6];
        ByteBuffer.wrap(Arrays.copyOf(bytes, 24)).asIntBuffer().get(payload);
        int[] measured = Tools.measured(stage, version, bytes.length, payload);
        int[] image = Tools.join(measured, new int[1], Tools.sealOf(stage, measured));
        image[15] ^= flaw;
        int slot = 2 * stage + (active(stage) == 0 ? 1 : 0);
        if (runs[stage] == slot) {
            off();
        }
        try {
            for (int i = 0; i < 16; i++) {
                write(slot, i, image[i]);
            }
            writeStage(stage, active(stage), true, 3);
        } catch (PowerLost e) {
            throw new IllegalStateException();
        }
        return slot;
    }

    void power(int words) {
        if (words < -1 || words > 1000) {
            throw new IllegalArgumentException();
        }
        power = words == -1 ? Long.MAX_VALUE : words;
    }

    int boot() {
        off();
        try {
            for (int stage = 0; stage < 2; stage++) {
                int slot = choose(stage);
                if (slot < 0) {
                    return stage == 0 ? 1 : 2;
                }
                runs[stage] = slot;
                int[] digest = Tools.hashOf(Arrays.copyOf(places[slot], 7));
                registers[stage] = Tools.hashOf(Tools.join(registers[stage], digest));
            }
            return 0;
        } catch (PowerLost e) {
            throw new IllegalStateException();
        }
    }

    private int choose(int stage) throws PowerLost {
        int activeSlot = 2 * stage + active(stage);
        int otherSlot = 2 * stage + 1 - active(stage);
        int slot = activeSlot;
        boolean tried = false;
        if (trial(stage)) {
            if (tries(stage) > 0) {
                writeStage(stage, active(stage), true, tries(stage) - 1);
                slot = otherSlot;
                tried = true;
            } else {
                writeStage(stage, active(stage), false, 0);
            }
        }
        if (!good(slot) && tried) {
            writeStage(stage, active(stage), false, 0);
            slot = activeSlot;
        }
        if (!good(slot)) {
            slot = otherSlot;
        }
        return good(slot) ? slot : -1;
    }

    void confirm() {
        if (runs[0] < 0 || runs[1] < 0) {
            throw new IllegalStateException();
        }
        int state = held().state;
        boolean any = false;
        for (int stage = 0; stage < 2; stage++) {
            if (trial(stage) && runs[stage] == 2 * stage + 1 - active(stage)) {
                state = withStage(state, stage, 1 - active(stage), false, 0);
                any = true;
            }
        }
        try {
            if (any) {
                writeRecord(state);
            }
        } catch (PowerLost e) {
            throw new UnsupportedOperationException();
        }
        for (int stage = 0; stage < 2; stage++) {
            int head = places[runs[stage]][0];
            counters[stage] = Math.max(counters[stage], Math.floorMod(head, 65536) / 256);
        }
    }

    int quote(int nonce, int word) {
        if (word < 0 || word > 7) {
            throw new IllegalArgumentException();
        }
        if (runs[0] < 0 || runs[1] < 0) {
            throw new IllegalStateException();
        }
        int[] key = {9, 10, 11, 12};
        int[] nonces = {nonce};
        return Tools.hashOf(Tools.join(key, registers[0], registers[1], nonces))[word];
    }

    void spoil(int place, int word, int bits) {
        if (place < 0 || place > 5 || word < 0 || word >= places[place].length) {
            throw new IllegalArgumentException();
        }
        places[place][word] ^= bits;
    }

    int state() {
        return held().state;
    }

    private boolean good(int slot) {
        int stage = slot / 2;
        int[] words = places[slot];
        int version = words[0] >>> 8 & 255;
        int n = words[0] & 255;
        if (words[0] != 65536 * stage + 256 * version + n || n > 24 || words[7] != 0) {
            return false;
        }
        ByteBuffer payload = ByteBuffer.allocate(24);
        payload.asIntBuffer().put(words, 1, 6);
        for (int i = n; i < 24; i++) {
            if (payload.get(i) != 0) {
                return false;
            }
        }
        int[] seal = Tools.sealOf(stage, Arrays.copyOf(words, 7));
        return Arrays.equals(seal, Arrays.copyOfRange(words, 8, 16)) && version >= counters[stage];
    }

    private int active(int stage) {
        return held().state >>> 4 * stage & 1;
    }

    private boolean trial(int stage) {
        return (held().state >>> 4 * stage + 1 & 1) == 1;
    }

    private int tries(int stage) {
        return held().state >>> 4 * stage + 2 & 3;
    }

    private static int withStage(int state, int stage, int active, boolean trial, int tries) {
        int bits = active + (trial ? 2 : 0) + 4 * tries;
        return state & ~(15 << 4 * stage) | bits << 4 * stage;
    }

    private void writeStage(int stage, int active, boolean trial, int tries) throws PowerLost {
        writeRecord(withStage(held().state, stage, active, trial, tries));
    }

    private void writeRecord(int state) throws PowerLost {
        Held held = held();
        int place = held.valid ? 5 - held.record : 4;
        int serial = (int) (held.serial + 1);
        write(place, 2, 0);
        write(place, 0, serial);
        write(place, 1, state);
        write(place, 2, 31 * serial + state + 12345);
    }

    private Held held() {
        Held best = new Held();
        for (int record = 0; record < 2; record++) {
            int[] words = places[4 + record];
            long serial = Integer.toUnsignedLong(words[0]);
            boolean valid = words[2] == (int) (31 * serial + words[1] + 12345);
            if (valid && (!best.valid || serial > best.serial)) {
                best.valid = true;
                best.record = record;
                best.serial = serial;
                best.state = words[1];
            }
        }
        return best;
    }

    private void write(int place, int word, int value) throws PowerLost {
        if (power == 0) {
            off();
            throw new PowerLost();
        }
        power--;
        places[place][word] = value;
    }

    private void off() {
        Arrays.fill(runs, -1);
        registers[0] = new int[8];
        registers[1] = new int[8];
    }
}
