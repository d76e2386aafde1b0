/** Terms: an image, its digest, and a good slot; each sentence on both sides of its boundary. */
public final class ImageEdgeTest {
    public static void main(String[] args) {
        for (int slot = 0; slot < 4; slot++) {
            version(slot);
            length(slot);
            zerosBehindThePayload(slot);
            wordSeven(slot);
            everyWordOfTheSeal(slot);
            stage(slot);
            key(slot);
            counter(slot);
        }
        countersOfTheTwoStages();
        wordSevenOfAnUpdate();
        digestCoversSevenWords();
        Check.end();
    }

    private static int[] plain(int slot) {
        return Tools.measured(slot / 2, 5, 2, 0x01020000);
    }

    /** An object whose only image of the slot's stage is to be put into that slot. */
    private static BootChain without(int slot) {
        BootChain x = new BootChain();
        if (slot >= 2) {
            Tools.putImage(x, 0, 0);
        }
        return x;
    }

    private static void due(String what, BootChain x, int slot, boolean good) {
        int stage = slot / 2;
        String name = what + " in slot " + slot;
        Check.equal("boot with " + name, x.boot(), good ? (stage == 0 ? 2 : 0) : stage + 1);
        Check.equal("runs " + name, x.runs(stage), good ? slot : -1);
    }

    private static void sealed(String what, int slot, boolean good, int[] measured) {
        BootChain x = without(slot);
        Tools.putSealed(x, slot, slot / 2, measured);
        due(what, x, slot, good);
    }

    /** Version 0 .. 255: what would be 256 or -1 stands in the bits of the stage. */
    private static void version(int slot) {
        int stage = slot / 2;
        sealed("version 0", slot, true, Tools.measured(stage, 0, 0));
        sealed("version 255", slot, true, Tools.measured(stage, 255, 0));
        sealed("version 256", slot, false, Tools.measured(stage, 256, 0));
        sealed("version -1", slot, false, Tools.measured(stage, -1, 0));
    }

    /** n 0 .. 24. */
    private static void length(int slot) {
        int stage = slot / 2;
        for (int n = 0; n <= 255; n++) {
            sealed(n + " zeros", slot, n <= 24, Tools.measured(stage, 7, n));
        }
        sealed("24 bytes", slot, true, Tools.measured(stage, 7, 24, -1, -1, -1, -1, -1, -1));
        sealed("25 bytes", slot, false, Tools.measured(stage, 7, 25, -1, -1, -1, -1, -1, -1));
    }

    /** With zeros behind: the last byte of the payload may be anything, the next one may not. */
    private static void zerosBehindThePayload(int slot) {
        for (int n = 0; n <= 24; n++) {
            if (n > 0) {
                sealed("byte " + n + " of " + n, slot, true, withByte(slot, n, n - 1, 0xFF));
            }
            for (int at = n; at < 24; at++) {
                String what = "byte " + (at + 1) + " of " + n;
                sealed(what, slot, false, withByte(slot, n, at, 0x80));
                sealed(what, slot, false, withByte(slot, n, at, 0x01));
            }
        }
    }

    private static int[] withByte(int slot, int n, int at, int octet) {
        int[] measured = Tools.measured(slot / 2, 7, n);
        measured[1 + at / 4] = octet << 24 - 8 * (at % 4);
        return measured;
    }

    /** Word 7 is 0, though no seal covers it. */
    private static void wordSeven(int slot) {
        for (int bit = 0; bit < 32; bit++) {
            oneBit(slot, 7, bit);
        }
    }

    /** An image that is made is whole, whatever the slots held that a boot has looked at. */
    private static void wordSevenOfAnUpdate() {
        for (int stage = 0; stage < 2; stage++) {
            BootChain x = stage == 0 ? new BootChain() : without(2);
            for (int word = 0; word < 16; word++) {
                x.spoil(2 * stage, word, -1);
                x.spoil(2 * stage + 1, word, -1);
            }
            Check.equal("boot", x.boot(), stage + 1);
            int slot = x.update(stage, 3, 0);
            int[] measured = Tools.measured(stage, 3, 0);
            int[] due = Tools.join(measured, new int[1], Tools.sealOf(stage, measured));
            for (int word = 0; word < 16; word++) {
                Check.equal("word " + word + " of an update", x.flash(slot, word), due[word]);
            }
        }
    }

    private static void everyWordOfTheSeal(int slot) {
        for (int word = 8; word < 16; word++) {
            oneBit(slot, word, 0);
            oneBit(slot, word, 31);
        }
    }

    private static void oneBit(int slot, int word, int bit) {
        BootChain x = without(slot);
        Tools.putSealed(x, slot, slot / 2, plain(slot));
        x.spoil(slot, word, 1 << bit);
        due("bit " + bit + " of word " + word, x, slot, false);
        x.spoil(slot, word, 1 << bit);
        due("word " + word + " as it was", x, slot, true);
    }

    private static void stage(int slot) {
        for (int stage : new int[] {-1, 0, 1, 2, 3, 0x7FFF, 0x8000, 0x8001, 0xFFFF}) {
            int[] measured = plain(slot);
            measured[0] = 65536 * stage + 256 * 5 + 2;
            sealed("stage " + stage, slot, stage == slot / 2, measured);
        }
    }

    private static void key(int slot) {
        BootChain x = without(slot);
        Tools.putSealed(x, slot, 1 - slot / 2, plain(slot));
        due("the other stage's key", x, slot, false);
        Tools.putSealed(x, slot, slot / 2, plain(slot));
        due("its stage's key", x, slot, true);
    }

    /** A version not below the counter. */
    private static void counter(int slot) {
        for (int counter : new int[] {0, 1, 2, 127, 128, 254, 255}) {
            for (int version = Math.max(0, counter - 2); version <= counter + 2; version++) {
                if (version <= 255) {
                    versionUnderCounter(slot, counter, version);
                }
            }
        }
    }

    private static void versionUnderCounter(int slot, int counter, int version) {
        int stage = slot / 2;
        BootChain x = Tools.running(stage == 0 ? counter : 0, stage == 0 ? 0 : counter);
        x.confirm();
        Check.equal("counter", x.counter(stage), counter);
        x.spoil(2 * stage, 15, 1);
        Tools.putImage(x, slot, version);
        int due = version >= counter ? 0 : stage + 1;
        Check.equal("version " + version + " under counter " + counter, x.boot(), due);
        Check.equal("runs", x.runs(stage), version >= counter ? slot : -1);
    }

    private static void countersOfTheTwoStages() {
        BootChain x = Tools.running(9, 3);
        x.confirm();
        Check.equal("a kernel below the loader's counter", x.boot(), 0);
        Tools.putImage(x, 0, 8);
        Check.equal("a loader above the kernel's counter alone", x.boot(), 1);
    }

    /** Words 0 to 6: word 6 changes the register, and word 15 would be no image. */
    private static void digestCoversSevenWords() {
        int[] one = Tools.measured(0, 1, 24, 1, 2, 3, 4, 5, 6);
        int[] two = Tools.measured(0, 1, 24, 1, 2, 3, 4, 5, 7);
        for (int[] measured : new int[][] {one, two}) {
            BootChain x = new BootChain();
            Tools.putSealed(x, 0, 0, measured);
            Check.equal("boot", x.boot(), 2);
            int[] due = Tools.registerAfter(measured);
            for (int word = 0; word < 8; word++) {
                Check.equal("register 0 " + word, x.register(0, word), due[word]);
            }
        }
    }
}
