/** Terms, power, and promise 4: the last word that can be written, and the one behind it. */
public final class PowerEdgeTest {
    public static void main(String[] args) {
        anyNumberAtFirst();
        anyNumberAgain();
        none();
        one();
        thousand();
        updateTakesTwenty();
        confirmTakesFour();
        usedUpIsNotLost();
        powerDoesNotAddUp();
        powerDoesNotBoot();
        lostUntilTheHostSays();
        whatTakesNoPower();
        offIsAllOfIt();
        Check.end();
    }

    private static void updates(BootChain x, int times) {
        for (int i = 0; i < times; i++) {
            Check.equal("update " + i, x.update(0, 1, 0), 1);
        }
    }

    private static void anyNumberAtFirst() {
        BootChain x = new BootChain();
        updates(x, 100);
        Check.equal("serial", x.flash(5, 0), 100);
    }

    private static void anyNumberAgain() {
        BootChain x = new BootChain();
        x.power(0);
        x.power(-1);
        updates(x, 100);
        Check.equal("serial", x.flash(5, 0), 100);
    }

    private static void none() {
        BootChain x = new BootChain();
        x.power(0);
        Check.illegal("update", () -> x.update(0, 1, 0));
        Seen.same("no word", x, Seen.of(new BootChain()));
    }

    private static void one() {
        BootChain x = new BootChain();
        x.power(1);
        Check.illegal("update", () -> x.update(0, 1, 0));
        BootChain due = new BootChain();
        due.spoil(1, 0, 256);
        Seen.same("one word", x, Seen.of(due));
    }

    private static void thousand() {
        BootChain x = new BootChain();
        x.power(1000);
        updates(x, 50);
        int[] before = Seen.of(x);
        Check.illegal("word 1001", () -> x.update(0, 2, 0));
        Seen.same("word 1001", x, before);
        BootChain y = new BootChain();
        y.power(999);
        updates(y, 49);
        Check.illegal("word 1000", () -> y.update(0, 2, 0));
        Check.equal("word 998", y.flash(5, 0), 50);
        Check.equal("word 999", y.flash(5, 1), 0x0E);
        Check.equal("not word 1000", y.flash(5, 2), 0);
    }

    /** Sixteen words of the slot and four of the record. */
    private static void updateTakesTwenty() {
        for (int words = 0; words <= 20; words++) {
            BootChain x = Tools.running(1, 1);
            x.power(words);
            if (words == 20) {
                Check.equal("update with 20", x.update(1, 2, 0), 3);
                Check.equal("it runs on", x.runs(0), 0);
                Check.equal("state", x.state(), 0xE0);
            } else {
                Check.illegal("update with " + words, () -> x.update(1, 2, 0));
                Tools.isOff("update with " + words, x);
                Check.equal("state", x.state(), 0);
            }
            Check.equal("word 0", x.flash(3, 0), words > 0 ? 65536 + 512 : 0);
            Check.holds("word 15", x.flash(3, 15) != 0 == words > 15);
            Check.equal("serial", x.flash(4, 0), words > 17 ? 1 : 0);
            Check.equal("state of the record", x.flash(4, 1), words > 18 ? 0xE0 : 0);
        }
    }

    private static void confirmTakesFour() {
        for (int words = 0; words <= 4; words++) {
            BootChain x = new BootChain();
            x.update(0, 1, 0);
            x.update(1, 1, 0);
            Check.equal("boot", x.boot(), 0);
            x.power(words);
            if (words == 4) {
                x.confirm();
                Check.equal("it runs on", x.runs(1), 3);
            } else {
                Check.unsupported("confirm with " + words, x::confirm);
                Tools.isOff("confirm with " + words, x);
            }
            Check.equal("counter", x.counter(0), words == 4 ? 1 : 0);
            Check.equal("state", x.state(), words == 4 ? 0x11 : 0xAA);
        }
    }

    /** Only the write behind the last word stops it. */
    private static void usedUpIsNotLost() {
        BootChain x = Tools.running(1, 1);
        x.power(20);
        x.update(0, 2, 0);
        Check.equal("it runs on", x.runs(1), 2);
        Check.holds("with its register", x.register(1, 0) != 0);
        int quote = x.quote(5, 0);
        x.confirm();
        Check.equal("confirm without writing", x.counter(1), 1);
        Check.equal("the same quote", x.quote(5, 0), quote);
        Check.illegal("boot that must write", x::boot);
        Tools.isOff("boot that must write", x);
    }

    private static void powerDoesNotAddUp() {
        BootChain x = new BootChain();
        x.power(19);
        x.power(20);
        updates(x, 1);
        Check.illegal("word 21", () -> x.update(0, 1, 0));
        x.power(1000);
        x.power(19);
        Check.illegal("word 20", () -> x.update(0, 1, 0));
    }

    private static void powerDoesNotBoot() {
        BootChain x = Tools.running(1, 1);
        x.power(0);
        Check.illegal("update", () -> x.update(0, 1, 0));
        x.power(-1);
        Tools.isOff("power is back", x);
        Check.equal("boot", x.boot(), 0);
    }

    private static void lostUntilTheHostSays() {
        BootChain x = new BootChain();
        x.power(18);
        Check.illegal("update", () -> x.update(0, 1, 0));
        int[] before = Seen.of(x);
        for (int i = 0; i < 3; i++) {
            Check.illegal("update again", () -> x.update(1, 1, 0));
        }
        Seen.same("nothing more is written", x, before);
        x.power(20);
        updates(x, 1);
    }

    private static void whatTakesNoPower() {
        BootChain x = Tools.running(1, 1);
        x.power(20);
        x.payload(1, 8);
        x.spoil(3, 15, 1);
        x.spoil(5, 0, 9);
        x.hash(1, 24, 0);
        x.quote(1, 0);
        x.confirm();
        Check.equal("a boot without a trial", x.boot(), 0);
        x.payload(1, 8);
        Check.bad("a refused update", () -> x.update(2, 1, 0));
        Check.equal("all 20 are left", x.update(0, 1, 0), 1);
        Check.illegal("and no more", () -> x.update(0, 1, 0));
    }

    /** Off by an update of the slot that runs: both stages, even if only one is written. */
    private static void offIsAllOfIt() {
        for (int stage = 0; stage < 2; stage++) {
            BootChain x = new BootChain();
            x.update(0, 1, 0);
            x.update(1, 1, 0);
            Check.equal("boot", x.boot(), 0);
            x.update(stage, 2, 0);
            Tools.isOff("update of stage " + stage + ", on trial and running", x);
            Check.illegal("quote", () -> x.quote(1, 1));
        }
    }
}
