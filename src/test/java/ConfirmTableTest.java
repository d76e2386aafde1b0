/**
 * Terms, to confirm: every state of the record with each pair of slots that run, with power for
 * just the words that are due and with power for one word less; then the counters.
 */
public final class ConfirmTableTest {
    private static final int SERIAL = 0x7FFFFFFF;

    public static void main(String[] args) {
        for (int state = 0; state < 256; state++) {
            for (int pair = 0; pair < 4; pair++) {
                enough(state, pair & 1, pair >> 1);
                oneWordLess(state, pair & 1, pair >> 1);
            }
        }
        countersStay();
        versionAtTheCounter();
        versionToldNow();
        refusedUntilBothRun();
        Check.end();
    }

    /** Both stages run the slots named; then the host puts in another record. */
    private static BootChain running(int loader, int kernel, int state) {
        BootChain x = new BootChain();
        for (int slot = 0; slot < 4; slot++) {
            Tools.putImage(x, slot, 10 + slot);
        }
        Tools.putRecord(x, 4, 1, loader + 16 * kernel);
        Check.equal("boot", x.boot(), 0);
        Check.equal("loader", x.runs(0), loader);
        Check.equal("kernel", x.runs(1), 2 + kernel);
        Tools.putRecord(x, 4, SERIAL, state);
        return x;
    }

    private static boolean runsTrial(int bits, int slotOfStage) {
        return (bits & 2) != 0 && (bits & 1) != slotOfStage;
    }

    private static int confirmed(int state, int loader, int kernel) {
        int low = runsTrial(state & 15, loader) ? loader : state & 15;
        int high = runsTrial(state >> 4, kernel) ? kernel : state >> 4;
        return low + 16 * high;
    }

    private static void enough(int state, int loader, int kernel) {
        String when = "confirm of " + loader + ", " + kernel + " in state " + state;
        int due = confirmed(state, loader, kernel);
        BootChain x = running(loader, kernel, state);
        x.power(due == state ? 0 : 4);
        x.confirm();
        Check.equal(when + ": state", x.state(), due);
        Tools.record(when, x, 4, SERIAL, state);
        if (due == state) {
            Check.equal(when + ": no record", x.flash(5, 2), 0);
        } else {
            Tools.record(when, x, 5, SERIAL + 1, due);
        }
        Check.equal(when + ": counter 0", x.counter(0), 10 + loader);
        Check.equal(when + ": counter 1", x.counter(1), 12 + kernel);
        Check.equal(when + ": loader runs on", x.runs(0), loader);
        Check.equal(when + ": kernel runs on", x.runs(1), 2 + kernel);
    }

    private static void oneWordLess(int state, int loader, int kernel) {
        if (confirmed(state, loader, kernel) == state) {
            return;
        }
        String when = "confirm with a word less in state " + state;
        BootChain x = running(loader, kernel, state);
        x.power(3);
        Check.unsupported(when, x::confirm);
        Tools.isOff(when, x);
        Check.equal(when + ": state", x.state(), state);
        Check.equal(when + ": counter 0", x.counter(0), 0);
        Check.equal(when + ": counter 1", x.counter(1), 0);
        Check.equal(when + ": serial", x.flash(5, 0), SERIAL + 1);
        Check.equal(when + ": no sum", x.flash(5, 2), 0);
        Check.illegal(when + ", again", x::confirm);
    }

    /** Version 0 is not greater than counter 0; 255 is the last that a counter can be. */
    private static void countersStay() {
        BootChain x = Tools.running(0, 255);
        x.confirm();
        Check.equal("version 0", x.counter(0), 0);
        Check.equal("version 255", x.counter(1), 255);
        x.confirm();
        Check.equal("version 0 again", x.counter(0), 0);
        Check.equal("version 255 again", x.counter(1), 255);
        Check.equal("both are good still", x.boot(), 0);
    }

    private static void versionAtTheCounter() {
        for (int stage = 0; stage < 2; stage++) {
            BootChain x = Tools.running(100, 100);
            x.confirm();
            int[] versions = {99, 100, 101, 100, 255, 0};
            int[] due = {100, 100, 101, 101, 255, 255};
            for (int i = 0; i < versions.length; i++) {
                Tools.put(x, 2 * stage, 0, 65536 * stage + 256 * versions[i]);
                x.confirm();
                Check.equal("counter behind " + versions[i], x.counter(stage), due[i]);
                Check.equal("the other counter", x.counter(1 - stage), 100);
            }
        }
    }

    /** The slot is read anew: neither its other bits nor the other slot count. */
    private static void versionToldNow() {
        BootChain x = Tools.running(1, 1);
        Tools.putImage(x, 1, 77);
        Tools.put(x, 0, 0, 0xFFFF02FF);
        Tools.put(x, 2, 0, 0x00000300);
        x.confirm();
        Check.equal("loader", x.counter(0), 2);
        Check.equal("kernel", x.counter(1), 3);
    }

    private static void refusedUntilBothRun() {
        BootChain x = new BootChain();
        Check.illegal("nothing runs", x::confirm);
        Tools.putImage(x, 0, 4);
        Check.equal("boot", x.boot(), 2);
        Check.illegal("the loader alone", x::confirm);
        Check.equal("its counter", x.counter(0), 0);
        Tools.putImage(x, 2, 5);
        Check.illegal("a good kernel that does not run", x::confirm);
        Check.equal("boot", x.boot(), 0);
        x.confirm();
        Check.equal("its counter", x.counter(0), 4);
        x.update(1, 5, 0);
        Check.equal("boot", x.boot(), 0);
        x.update(1, 5, 0);
        Check.illegal("off by an update", x::confirm);
    }
}
