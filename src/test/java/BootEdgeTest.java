/** Terms, to boot: each sentence by itself, and what comes before and behind it. */
public final class BootEdgeTest {
    public static void main(String[] args) {
        firstItRunsNothing();
        triesLeft();
        noneLeft();
        trialNotGood();
        trialBelowTheCounter();
        activeNotGood();
        neitherGood();
        kernelOnlyBehindALoader();
        registersStartAnew();
        behindTheGreatestSerial();
        loaderIsNotHeldBackByTheKernel();
        Check.end();
    }

    /** Also when it boots no further or loses its power. */
    private static void firstItRunsNothing() {
        BootChain x = Tools.running(1, 1);
        x.spoil(0, 9, 1);
        Check.equal("no loader any more", x.boot(), 1);
        Tools.isOff("no loader any more", x);
        BootChain y = Tools.running(1, 1);
        Tools.putRecord(y, 4, 1, 0x0E);
        y.power(0);
        Check.illegal("no power", y::boot);
        Tools.isOff("no power", y);
        BootChain z = Tools.running(1, 1);
        Tools.putRecord(z, 4, 1, 0xE0);
        z.power(0);
        Check.illegal("no power for the kernel", z::boot);
        Tools.isOff("the loader ran when the power was lost", z);
    }

    /** Tries 3, 2, 1 become one less each, for each stage by itself. */
    private static void triesLeft() {
        for (int stage = 0; stage < 2; stage++) {
            BootChain x = Tools.running(1, 1);
            int slot = x.update(stage, 1, 0);
            for (int tries = 3; tries >= 1; tries--) {
                Check.equal("tries before", x.state(), 2 + 4 * tries << 4 * stage);
                Check.equal("boot", x.boot(), 0);
                Check.equal("the slot on trial", x.runs(stage), slot);
                Check.equal("the other stage", x.runs(1 - stage), 2 - 2 * stage);
                Check.equal("tries", x.state(), 2 + 4 * (tries - 1) << 4 * stage);
            }
            Check.equal("fourth boot", x.boot(), 0);
            Check.equal("the active one", x.runs(stage), 2 * stage);
            Check.equal("no trial", x.state(), 0);
        }
    }

    private static void noneLeft() {
        BootChain x = Tools.running(1, 1);
        Tools.putImage(x, 1, 1);
        Tools.putRecord(x, 4, 3, 0x02);
        x.power(4);
        Check.equal("boot", x.boot(), 0);
        Check.equal("the active one, though the trial is good", x.runs(0), 0);
        Tools.record("once", x, 5, 4, 0);
        Tools.record("once", x, 4, 3, 0x02);
    }

    /** Two records: one try less, then the end of the trial. */
    private static void trialNotGood() {
        for (int tries = 1; tries <= 3; tries++) {
            BootChain x = Tools.running(1, 1);
            Tools.putRecord(x, 4, 3, 0x22 + 4 * tries);
            x.power(12);
            Check.equal("boot", x.boot(), 0);
            Check.equal("the active one", x.runs(0), 0);
            Check.equal("state", x.state(), 0);
            Tools.record("behind the two of the loader", x, 5, 6, 0);
            Tools.record("the trial of the loader is ended", x, 4, 5, 0x20);
        }
    }

    /** A sealed image of an old version is not good on trial either. */
    private static void trialBelowTheCounter() {
        BootChain x = Tools.running(6, 6);
        x.confirm();
        x.update(0, 5, 0);
        x.update(1, 6, 0);
        Check.equal("boot", x.boot(), 0);
        Check.equal("below the counter", x.runs(0), 0);
        Check.equal("at the counter", x.runs(1), 3);
        Check.equal("state", x.state(), 0xA0);
    }

    /** The other one runs whatever the record says, and the record stays as it is. */
    private static void activeNotGood() {
        for (int tries = 0; tries < 4; tries++) {
            BootChain x = Tools.running(1, 1);
            Tools.putImage(x, 1, 1);
            x.spoil(0, 15, 1);
            Tools.putRecord(x, 4, 3, 4 * tries);
            x.power(0);
            Check.equal("boot", x.boot(), 0);
            Check.equal("the other one", x.runs(0), 1);
            Tools.record("it stays so", x, 4, 3, 4 * tries);
            x.spoil(0, 15, 1);
            Check.equal("boot", x.boot(), 0);
            Check.equal("the active one again", x.runs(0), 0);
        }
    }

    private static void neitherGood() {
        BootChain x = new BootChain();
        Tools.putRecord(x, 4, 3, 0xE0);
        x.power(0);
        Check.equal("no loader: the kernel's trial costs nothing", x.boot(), 1);
        Check.equal("state", x.state(), 0xE0);
        Tools.putImage(x, 1, 0);
        x.power(8);
        Check.equal("no kernel", x.boot(), 2);
        Check.equal("its trial is ended", x.state(), 0);
        Check.equal("the loader runs", x.runs(0), 1);
        Check.equal("no kernel runs", x.runs(1), -1);
    }

    private static void kernelOnlyBehindALoader() {
        BootChain x = new BootChain();
        x.update(1, 1, 0);
        Check.equal("a kernel without a loader", x.boot(), 1);
        Check.equal("its tries", x.state(), 0xE0);
        x.update(0, 1, 0);
        Check.equal("with a loader", x.boot(), 0);
        Check.equal("tries of both", x.state(), 0xAA);
    }

    private static void registersStartAnew() {
        BootChain x = Tools.running(1, 2);
        int[] first = Seen.of(x);
        Check.equal("boot", x.boot(), 0);
        Seen.same("a second boot folds into zeros", x, first);
    }

    /** Serial 0 behind 2^32 - 1 does not hold, so that the old state is what the kernel finds. */
    private static void behindTheGreatestSerial() {
        BootChain x = new BootChain();
        for (int slot = 0; slot < 4; slot++) {
            Tools.putImage(x, slot, 1);
        }
        Tools.putRecord(x, 4, -1, 0xEE);
        Check.equal("boot", x.boot(), 0);
        Check.equal("loader on trial", x.runs(0), 1);
        Check.equal("kernel on trial", x.runs(1), 3);
        Check.equal("what holds stays", x.state(), 0xEE);
        Tools.record("written for the kernel", x, 5, 0, 0xAE);
    }

    private static void loaderIsNotHeldBackByTheKernel() {
        BootChain x = Tools.running(1, 1);
        x.update(0, 2, 0);
        x.spoil(2, 15, 1);
        for (int tries = 2; tries >= 0; tries--) {
            Check.equal("no kernel", x.boot(), 2);
            Check.equal("loader on trial", x.runs(0), 1);
            Check.equal("tries", x.state(), 2 + 4 * tries);
        }
        Check.equal("no kernel", x.boot(), 2);
        Check.equal("the active loader", x.runs(0), 0);
    }
}
