import java.nio.ByteBuffer;
import java.security.MessageDigest;
import java.security.NoSuchAlgorithmException;
import java.util.stream.IntStream;

/** What a host needs to make any flash it likes: the hash, seals, and words put in by spoil. */
final class Tools {
    static final int RECORD_0 = 4;
    static final int RECORD_1 = 5;

    private Tools() {}

    static int[] hashOf(int... words) {
        ByteBuffer bytes = ByteBuffer.allocate(4 * words.length);
        for (int word : words) {
            bytes.putInt(word);
        }
        try {
            byte[] hash = MessageDigest.getInstance("SHA-256").digest(bytes.array());
            int[] answer = new int[8];
            ByteBuffer.wrap(hash).asIntBuffer().get(answer);
            return answer;
        } catch (NoSuchAlgorithmException e) {
            throw new AssertionError(e);
        }
    }

    static int[] join(int[]... rows) {
        IntStream all = IntStream.empty();
        for (int[] row : rows) {
            all = IntStream.concat(all, IntStream.of(row));
        }
        return all.toArray();
    }

    static int[] keyOf(int stage) {
        return stage == 0 ? new int[] {1, 2, 3, 4} : new int[] {5, 6, 7, 8};
    }

    static int[] sealOf(int stage, int[] measured) {
        return hashOf(join(keyOf(stage), measured, keyOf(stage)));
    }

    /** The seven words that a seal covers. */
    static int[] measured(int stage, int version, int n, int... payload) {
        int[] words = new int[7];
        words[0] = 65536 * stage + 256 * version + n;
        System.arraycopy(payload, 0, words, 1, payload.length);
        return words;
    }

    static void put(BootChain x, int place, int word, int value) {
        x.spoil(place, word, x.flash(place, word) ^ value);
    }

    static void putRecord(BootChain x, int place, int serial, int state) {
        put(x, place, 0, serial);
        put(x, place, 1, state);
        put(x, place, 2, 31 * serial + state + 12345);
    }

    /** Seven words under the seal of a stage, whether they make an image or not. */
    static void putSealed(BootChain x, int slot, int stage, int... measured) {
        int[] seal = sealOf(stage, measured);
        for (int i = 0; i < 7; i++) {
            put(x, slot, i, measured[i]);
        }
        put(x, slot, 7, 0);
        for (int i = 0; i < 8; i++) {
            put(x, slot, 8 + i, seal[i]);
        }
    }

    static void putImage(BootChain x, int slot, int version) {
        putSealed(x, slot, slot / 2, measured(slot / 2, version, 0));
    }

    /** Both stages run from slots 0 and 2, with nothing on trial and no record. */
    static BootChain running(int loaderVersion, int kernelVersion) {
        BootChain x = new BootChain();
        putImage(x, 0, loaderVersion);
        putImage(x, 2, kernelVersion);
        Check.equal("boot of two good slots", x.boot(), 0);
        return x;
    }

    static int[] registerAfter(int... measured) {
        return hashOf(join(new int[8], hashOf(measured)));
    }

    static void isOff(String when, BootChain x) {
        for (int stage = 0; stage < 2; stage++) {
            Check.equal(when + ": runs " + stage, x.runs(stage), -1);
            for (int word = 0; word < 8; word++) {
                Check.equal(when + ": register " + stage + " " + word, x.register(stage, word), 0);
            }
        }
    }

    static void record(String when, BootChain x, int place, int serial, int state) {
        Check.equal(when + ": serial of " + place, x.flash(place, 0), serial);
        Check.equal(when + ": state of " + place, x.flash(place, 1), state);
        Check.equal(when + ": sum of " + place, x.flash(place, 2), 31 * serial + state + 12345);
    }
}
