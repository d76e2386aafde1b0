/** Promise 5: which slots are good, which is chosen, what is written on the way. */
public final class BootTest {
    public static void main(String[] args) {
        answers();
        everyBitOfAnImage();
        formOfAnImage();
        versionAndCounter();
        triesRunOut();
        badTrial();
        fallback();
        tryBitsWithoutTrial();
        upperBitsStay();
        for (int words = 0; words < 16; words++) {
            powerLostAfter(words);
        }
        greatestSerial();
        Check.end();
    }

    private static void answers() {
        BootChain x = new BootChain();
        Check.equal("no loader", x.boot(), 1);
        Tools.putImage(x, 2, 1);
        Check.equal("no loader, but a kernel", x.boot(), 1);
        Tools.isOff("no loader", x);
        Tools.putImage(x, 0, 1);
        Check.equal("both", x.boot(), 0);
        Check.equal("loader", x.runs(0), 0);
        Check.equal("kernel", x.runs(1), 2);
        x.spoil(2, 0, 1);
        Check.equal("no kernel", x.boot(), 2);
        Check.equal("loader alone", x.runs(0), 0);
        Check.equal("kernel does not run", x.runs(1), -1);
        Check.equal("its register", x.register(1, 0), 0);
        Check.holds("the loader's register", x.register(0, 0) != 0);
        x.spoil(0, 0, 1);
        Check.equal("no loader any more", x.boot(), 1);
        Tools.isOff("no loader any more", x);
        Check.equal("no record was written", x.flash(4, 2), 0);
    }

    private static void everyBitOfAnImage() {
        BootChain x = new BootChain();
        Tools.putSealed(x, 0, 0, Tools.measured(0, 3, 24, 1, 2, 3, 4, 5, 6));
        for (int word = 0; word < 16; word++) {
            for (int bit = 0; bit < 32; bit += word == 7 ? 1 : 5) {
                x.spoil(0, word, 1 << bit);
                Check.equal("boot with bit " + bit + " of word " + word, x.boot(), 1);
                x.spoil(0, word, 1 << bit);
            }
        }
        Check.equal("boot", x.boot(), 2);
    }

    private static void formOfAnImage() {
        sealed("24 bytes", 2, 0, Tools.measured(0, 0, 24, -1, -1, -1, -1, -1, -1));
        sealed("25 bytes", 1, 0, Tools.measured(0, 0, 25, -1, -1, -1, -1, -1, -1));
        sealed("255 bytes", 1, 0, Tools.measured(0, 0, 255, -1, -1, -1, -1, -1, -1));
        sealed("no byte", 2, 0, Tools.measured(0, 0, 0));
        sealed("one byte", 2, 0, Tools.measured(0, 0, 1, 0xFF000000));
        sealed("a bit behind one byte", 1, 0, Tools.measured(0, 0, 1, 0xFF800000));
        sealed("a bit far behind", 1, 0, Tools.measured(0, 0, 23, 0, 0, 0, 0, 0, 1));
        sealed("23 bytes", 2, 0, Tools.measured(0, 0, 23, 0, 0, 0, 0, 0, 0x0100));
        sealed("seven bytes", 2, 0, Tools.measured(0, 0, 7, -1, -256));
        sealed("another stage", 1, 0, Tools.measured(1, 0, 0));
        sealed("another key", 1, 1, Tools.measured(0, 0, 0));
        sealed("stage and key of another", 1, 1, Tools.measured(1, 0, 0));
        sealed("a high stage", 1, 0, Tools.measured(0x8000, 0, 0));
        BootChain x = new BootChain();
        Tools.putImage(x, 1, 1);
        Tools.putSealed(x, 3, 0, Tools.measured(0, 0, 0));
        Check.equal("a loader as kernel", x.boot(), 2);
        Tools.putSealed(x, 3, 1, Tools.measured(1, 0, 0));
        Check.equal("a kernel", x.boot(), 0);
    }

    /** Words under a seal in slot 0: a boot ends with 2 when they are an image, or else with 1. */
    private static void sealed(String what, int due, int keyStage, int[] measured) {
        BootChain x = new BootChain();
        Tools.putSealed(x, 0, keyStage, measured);
        Check.equal(what, x.boot(), due);
    }

    private static void versionAndCounter() {
        BootChain x = Tools.running(200, 7);
        x.confirm();
        Tools.putImage(x, 0, 199);
        Check.equal("loader below the counter", x.boot(), 1);
        Tools.putImage(x, 0, 200);
        Check.equal("loader at the counter", x.boot(), 0);
        Tools.putImage(x, 0, 255);
        Tools.putImage(x, 2, 6);
        Check.equal("kernel below the counter", x.boot(), 2);
        Tools.putImage(x, 2, 8);
        Check.equal("kernel above the counter", x.boot(), 0);
    }

    private static void triesRunOut() {
        BootChain x = Tools.running(1, 1);
        x.update(0, 2, 0);
        for (int tries = 2; tries >= 0; tries--) {
            Check.equal("boot", x.boot(), 0);
            Check.equal("the trial", x.runs(0), 1);
            Check.equal("tries", x.state(), 2 + 4 * tries);
            Check.equal("serial", x.flash(tries % 2 == 0 ? 5 : 4, 0), 4 - tries);
        }
        Check.equal("boot", x.boot(), 0);
        Check.equal("the active one", x.runs(0), 0);
        Check.equal("the trial is ended", x.state(), 0);
        Tools.record("the trial is ended", x, 4, 5, 0);
        Check.equal("boot", x.boot(), 0);
        Tools.record("nothing more is written", x, 4, 5, 0);
        Tools.record("nothing more is written", x, 5, 4, 2);
    }

    private static void badTrial() {
        BootChain x = Tools.running(1, 1);
        Tools.putRecord(x, 5, 7, 0x10);
        x.update(1, 2, 0);
        Check.equal("slot 2 on trial", x.state(), 0xF0);
        x.spoil(2, 8, 1);
        Tools.putImage(x, 3, 4);
        Check.equal("boot", x.boot(), 0);
        Check.equal("the active one", x.runs(1), 3);
        Tools.record("one try less", x, 5, 9, 0xB0);
        Tools.record("the trial is ended", x, 4, 10, 0x10);
        x.update(1, 2, 1);
        x.spoil(3, 8, 1);
        Check.equal("neither", x.boot(), 2);
        Check.equal("the trial is ended", x.state(), 0x10);
        Check.equal("serial", x.flash(5, 0), 13);
        spentTrialIsFallback();
    }

    /** The trial has no tries left, the active slot is bad: the other one runs all the same. */
    private static void spentTrialIsFallback() {
        BootChain x = Tools.running(1, 1);
        Tools.putImage(x, 1, 1);
        x.spoil(0, 8, 1);
        Tools.putRecord(x, 4, 5, 0x02);
        Check.equal("boot", x.boot(), 0);
        Check.equal("the other one", x.runs(0), 1);
        Tools.record("the trial is ended", x, 5, 6, 0);
    }

    private static void fallback() {
        BootChain x = new BootChain();
        Tools.putImage(x, 1, 1);
        Tools.putImage(x, 2, 1);
        Tools.putRecord(x, 4, 5, 0x10);
        x.power(0);
        Check.equal("boot", x.boot(), 0);
        Check.equal("the other loader", x.runs(0), 1);
        Check.equal("the other kernel", x.runs(1), 2);
        Check.equal("the record stays", x.state(), 0x10);
        Tools.putImage(x, 0, 1);
        Tools.putImage(x, 3, 1);
        Check.equal("boot", x.boot(), 0);
        Check.equal("the active loader", x.runs(0), 0);
        Check.equal("the active kernel", x.runs(1), 3);
    }

    private static void tryBitsWithoutTrial() {
        BootChain x = Tools.running(1, 1);
        Tools.putImage(x, 1, 1);
        Tools.putRecord(x, 4, 5, 0x0C);
        x.power(0);
        Check.equal("boot", x.boot(), 0);
        Check.equal("the active one", x.runs(0), 0);
        Check.equal("the state stays", x.state(), 0x0C);
    }

    private static void upperBitsStay() {
        BootChain x = Tools.running(1, 1);
        Tools.putRecord(x, 4, 5, 0xFFFFFF0E);
        Check.equal("boot", x.boot(), 0);
        Check.equal("state", x.state(), 0xFFFFFF00);
    }

    /** Two bad trials: four records of four words each are due. */
    private static void powerLostAfter(int words) {
        BootChain x = Tools.running(1, 1);
        x.update(0, 2, 1);
        x.update(1, 2, 1);
        x.power(words);
        Check.illegal("boot with power for " + words, x::boot);
        Tools.isOff("boot with power for " + words, x);
        int[] states = {0xEE, 0xEA, 0xE0, 0xA0};
        Check.equal("state with power for " + words, x.state(), states[words / 4]);
        int place = words / 4 % 2 == 0 ? 4 : 5;
        int serial = 3 + words / 4;
        int[] next = {0xEA, 0xE0, 0xA0, 0x00};
        if (words % 4 > 0) {
            Check.equal("sum of " + words, x.flash(place, 2), 0);
            int due = words % 4 > 1 ? serial : serial - 2;
            Check.equal("serial of " + words, x.flash(place, 0), due);
        }
        if (words % 4 > 2) {
            Check.equal("state of " + words, x.flash(place, 1), next[words / 4]);
        }
        x.power(16);
        Check.equal("boot again", x.boot(), 0);
        Check.equal("state at last", x.state(), 0);
    }

    private static void greatestSerial() {
        BootChain x = Tools.running(1, 1);
        Tools.putImage(x, 1, 1);
        Tools.putRecord(x, 4, 0x7FFFFFFF, 0x0E);
        Check.equal("boot", x.boot(), 0);
        Tools.record("the sign bit counts", x, 5, 0x80000000, 0x0A);
        Check.equal("state", x.state(), 0x0A);
        Check.equal("boot", x.boot(), 0);
        Tools.record("and on", x, 4, 0x80000001, 0x06);
        Check.equal("state", x.state(), 0x06);
    }
}
