/** Promise 6: to confirm. */
public final class ConfirmTest {
    public static void main(String[] args) {
        notBothRun();
        bothTrials();
        oneTrial();
        noTrial();
        otherThanTheTrialRuns();
        versionToldNow();
        for (int words = 0; words < 4; words++) {
            powerLostAfter(words);
        }
        Check.end();
    }

    private static void notBothRun() {
        BootChain x = new BootChain();
        Check.illegal("new", x::confirm);
        x.update(0, 5, 0);
        Check.illegal("never booted", x::confirm);
        Check.equal("boot", x.boot(), 2);
        x.power(0);
        Check.illegal("the loader alone", x::confirm);
        Check.equal("it runs on", x.runs(0), 1);
        Check.equal("state", x.state(), 0x0A);
        Check.equal("counter", x.counter(0), 0);
    }

    private static void bothTrials() {
        BootChain x = new BootChain();
        x.update(0, 3, 0);
        x.update(1, 255, 0);
        x.boot();
        x.power(4);
        x.confirm();
        Tools.record("once", x, 4, 5, 0x11);
        Check.equal("state", x.state(), 0x11);
        Check.equal("counter 0", x.counter(0), 3);
        Check.equal("counter 1", x.counter(1), 255);
        Check.equal("runs on", x.runs(0), 1);
        Check.equal("runs on", x.runs(1), 3);
        x.confirm();
        Tools.record("nothing more", x, 4, 5, 0x11);
        Check.equal("boot", x.boot(), 0);
        Check.equal("update of the slot that is not active now", update(x, 0, 3), 0);
        x.boot();
        x.confirm();
        Check.equal("and back", x.state(), 0x10);
    }

    private static int update(BootChain x, int stage, int version) {
        x.power(-1);
        return x.update(stage, version, 0);
    }

    private static void oneTrial() {
        BootChain x = Tools.running(1, 2);
        x.update(1, 9, 0);
        x.boot();
        x.confirm();
        Check.equal("state", x.state(), 0x10);
        Check.equal("counter 0", x.counter(0), 1);
        Check.equal("counter 1", x.counter(1), 9);
        Check.equal("serial", x.flash(4, 0), 3);
    }

    private static void noTrial() {
        BootChain x = Tools.running(4, 5);
        x.power(0);
        x.confirm();
        Check.equal("no record", x.flash(4, 2), 0);
        Check.equal("counter 0", x.counter(0), 4);
        Check.equal("counter 1", x.counter(1), 5);
        fallbackIsNoTrial();
    }

    private static void fallbackIsNoTrial() {
        BootChain x = Tools.running(4, 5);
        Tools.putRecord(x, 4, 1, 0x11);
        Check.equal("boot", x.boot(), 0);
        x.confirm();
        Check.equal("the record stays", x.state(), 0x11);
        Check.equal("counter 0", x.counter(0), 4);
    }

    private static void otherThanTheTrialRuns() {
        BootChain x = Tools.running(4, 5);
        x.update(0, 6, 0);
        x.power(0);
        x.confirm();
        Check.equal("the trial goes on", x.state(), 0x0E);
        Check.equal("counter of the one that runs", x.counter(0), 4);
        Check.equal("boots no further than the power", x.runs(0), 0);
    }

    private static void versionToldNow() {
        BootChain x = Tools.running(4, 5);
        x.spoil(0, 0, 0x0000A200);
        x.spoil(2, 0, 0xFFFF0300 | 255);
        x.confirm();
        Check.equal("counter 0", x.counter(0), 0xA6);
        Check.equal("counter 1", x.counter(1), 6);
        x.spoil(0, 0, 0x00008000);
        x.confirm();
        Check.equal("never less", x.counter(0), 0xA6);
        x.spoil(0, 0, 0x00008100);
        x.confirm();
        Check.equal("one more", x.counter(0), 0xA7);
    }

    private static void powerLostAfter(int words) {
        BootChain x = new BootChain();
        x.update(0, 3, 0);
        x.update(1, 4, 0);
        x.boot();
        x.power(words);
        Check.unsupported("confirm with power for " + words, x::confirm);
        Tools.isOff("confirm with power for " + words, x);
        Check.equal("state", x.state(), 0xAA);
        Check.equal("counter 0", x.counter(0), 0);
        Check.equal("counter 1", x.counter(1), 0);
        Check.illegal("confirm again", x::confirm);
        Check.equal("sum", x.flash(4, 2), words == 0 ? 31 * 3 + 0xEA + 12345 : 0);
        Check.equal("serial", x.flash(4, 0), words < 2 ? 3 : 5);
        Check.equal("state written", x.flash(4, 1), words < 3 ? 0xEA : 0x11);
        x.power(-1);
        Check.equal("boot", x.boot(), 0);
        x.confirm();
        Check.equal("state", x.state(), 0x11);
    }
}
