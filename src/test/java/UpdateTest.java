/** Promise 3: images, the slot that is not active, the record, and what a loss of power leaves. */
public final class UpdateTest {
    public static void main(String[] args) {
        imageAndRecord();
        flaw();
        slotThatIsNotActive();
        runningSlot();
        wrongInputs();
        draftIsEmptyAfterwards();
        for (int words = 0; words < 20; words++) {
            powerLostAfter(words);
        }
        stateBitsOfOthersStay();
        Check.end();
    }

    private static void imageAndRecord() {
        for (int stage = 0; stage < 2; stage++) {
            BootChain x = new BootChain();
            x.payload(0x0102030405L, 5);
            int slot = x.update(stage, 255, 0);
            Check.equal("slot", slot, 2 * stage + 1);
            image(x, slot, Tools.measured(stage, 255, 5, 0x01020304, 0x05000000), 0);
            Tools.record("first", x, 4, 1, 14 << 4 * stage);
            Check.equal("state", x.state(), 14 << 4 * stage);
            Check.equal("update again", x.update(stage, 0, 0), slot);
            image(x, slot, Tools.measured(stage, 0, 0), 0);
            Tools.record("second", x, 5, 2, 14 << 4 * stage);
            Check.equal("update of the other", x.update(1 - stage, 1, 0), 3 - 2 * stage);
            Tools.record("third", x, 4, 3, 0xEE);
            Tools.record("second still", x, 5, 2, 14 << 4 * stage);
        }
    }

    private static void image(BootChain x, int slot, int[] measured, int flaw) {
        int[] seal = Tools.sealOf(slot / 2, measured);
        seal[7] ^= flaw;
        int[] due = Tools.join(measured, new int[1], seal);
        for (int i = 0; i < 16; i++) {
            Check.equal("word " + i + " of slot " + slot, x.flash(slot, i), due[i]);
        }
    }

    private static void flaw() {
        for (int flaw : new int[] {1, -1, 0x80000000, 0x00010000}) {
            BootChain x = new BootChain();
            image(x, x.update(1, 4, flaw), Tools.measured(1, 4, 0), flaw);
            image(x, x.update(0, 4, 0), Tools.measured(0, 4, 0), 0);
        }
    }

    private static void slotThatIsNotActive() {
        for (int state = 0; state < 256; state++) {
            BootChain x = new BootChain();
            Tools.putRecord(x, 5, 40, state);
            for (int stage = 0; stage < 2; stage++) {
                int active = state >>> 4 * stage & 1;
                Check.equal("slot in " + state, x.update(stage, 0, 0), 2 * stage + 1 - active);
            }
            Check.equal("state behind " + state, x.state(), state & 0x11 | 0xEE);
        }
    }

    private static void runningSlot() {
        BootChain x = Tools.running(1, 1);
        x.update(0, 2, 0);
        x.update(1, 2, 0);
        Check.equal("the active loader runs on", x.runs(0), 0);
        Check.equal("the active kernel runs on", x.runs(1), 2);
        Check.holds("with its register", x.register(1, 0) != 0);
        x.boot();
        Check.equal("runs the trial", x.runs(0), 1);
        x.update(0, 2, 0);
        Tools.isOff("update of the loader that runs", x);
        x.boot();
        Check.equal("runs the trial", x.runs(1), 3);
        x.update(1, 2, 0);
        Tools.isOff("update of the kernel that runs", x);
        fallbackThatRuns();
        powerLostElsewhere();
    }

    private static void fallbackThatRuns() {
        BootChain x = Tools.running(1, 1);
        Tools.putRecord(x, 4, 1, 0x10);
        x.boot();
        Check.equal("kernel that is not active", x.runs(1), 2);
        x.power(0);
        Check.illegal("update without power", () -> x.update(1, 1, 0));
        Tools.isOff("update of the one that is not active", x);
    }

    private static void powerLostElsewhere() {
        BootChain x = Tools.running(1, 1);
        x.power(3);
        Check.illegal("update with little power", () -> x.update(1, 1, 0));
        Tools.isOff("power lost in an update", x);
    }

    private static void wrongInputs() {
        BootChain x = Tools.running(1, 1);
        x.power(0);
        int[] wrongStages = {-1, 2, 3, Integer.MIN_VALUE, Integer.MAX_VALUE};
        int[] wrongVersions = {-1, 256, 65536, Integer.MIN_VALUE, Integer.MAX_VALUE};
        for (int stage : wrongStages) {
            Check.bad("update of stage " + stage, () -> x.update(stage, 1, 0));
        }
        for (int version : wrongVersions) {
            Check.bad("update to version " + version, () -> x.update(0, version, 0));
            Check.bad("update to version " + version, () -> x.update(1, version, 0));
        }
        Check.equal("runs on", x.runs(0), 0);
        Check.equal("no record", x.flash(4, 2), 0);
        Check.equal("no image", x.flash(1, 8), 0);
    }

    private static void draftIsEmptyAfterwards() {
        BootChain x = new BootChain();
        x.payload(-1, 8);
        Check.bad("no stage", () -> x.update(2, 1, 0));
        Check.equal("n behind a wrong stage", x.flash(x.update(0, 1, 0), 0), 256);
        x.payload(-1, 8);
        Check.bad("no version", () -> x.update(0, 256, 0));
        Check.equal("n behind a wrong version", x.flash(x.update(0, 1, 0), 0), 256);
        x.payload(-1, 8);
        x.power(0);
        Check.illegal("no power", () -> x.update(0, 1, 0));
        x.power(-1);
        int slot = x.update(0, 1, 0);
        Check.equal("n behind a loss of power", x.flash(slot, 0), 256);
        Check.equal("payload behind a loss of power", x.flash(slot, 1), 0);
        x.payload(-1, 8);
        x.update(0, 1, 0);
        Check.equal("n behind an update", x.flash(x.update(0, 1, 0), 0), 256);
        Check.equal("payload behind an update", x.flash(1, 1), 0);
    }

    private static void powerLostAfter(int words) {
        BootChain x = new BootChain();
        x.payload(0x0102030405060708L, 8);
        x.update(0, 3, 0);
        int[] before = dump(x);
        x.power(words);
        x.payload(0x1112131415161718L, 8);
        Check.illegal("update with power for " + words, () -> x.update(0, 4, 0));
        int[] written = Tools.measured(0, 4, 8, 0x11121314, 0x15161718);
        int[] image = Tools.join(written, new int[1], Tools.sealOf(0, written));
        int[] recordWords = {2, 14, 31 * 2 + 14 + 12345};
        int[] due = before.clone();
        for (int i = 0; i < words && i < 16; i++) {
            due[i] = image[i];
        }
        for (int i = 17; i < words; i++) {
            due[16 + i - 17] = recordWords[i - 17];
        }
        int[] got = dump(x);
        for (int i = 0; i < due.length; i++) {
            Check.equal("word " + i + " with power for " + words, got[i], due[i]);
        }
        Check.equal("state with power for " + words, x.state(), 14);
        x.power(20);
        Check.equal("update with power for 20", x.update(0, 4, 0), 1);
    }

    private static int[] dump(BootChain x) {
        int[] words = new int[19];
        for (int i = 0; i < 16; i++) {
            words[i] = x.flash(1, i);
        }
        for (int i = 0; i < 3; i++) {
            words[16 + i] = x.flash(5, i);
        }
        return words;
    }

    private static void stateBitsOfOthersStay() {
        BootChain x = new BootChain();
        Tools.putRecord(x, 4, 9, 0xABCDEF41);
        Check.equal("slot", x.update(0, 1, 0), 0);
        Check.equal("state", x.state(), 0xABCDEF4F);
    }
}
