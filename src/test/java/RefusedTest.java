import java.util.function.Consumer;
import java.util.function.Supplier;

/**
 * Promises 2 to 14: each call that is refused for its arguments, or because not both stages run,
 * throws what the document names and leaves flash, registers, counters, draft and power alone.
 */
public final class RefusedTest {
    private static final int LOW = Integer.MIN_VALUE;
    private static final int HIGH = Integer.MAX_VALUE;
    private static final int POWER = 45;

    public static void main(String[] args) {
        inEveryState("a new object", BootChain::new);
        inEveryState("the loader alone", RefusedTest::loaderAlone);
        inEveryState("both stages", () -> Tools.running(1, 1));
        inEveryState("two trials", RefusedTest::twoTrials);
        inEveryState("lost power", RefusedTest::lostPower);
        notBothRun("a new object", BootChain::new);
        notBothRun("the loader alone", RefusedTest::loaderAlone);
        notBothRun("lost power", RefusedTest::lostPower);
        Check.end();
    }

    private static BootChain loaderAlone() {
        BootChain x = new BootChain();
        Tools.putImage(x, 0, 1);
        Check.equal("boot of the loader alone", x.boot(), 2);
        return x;
    }

    private static BootChain twoTrials() {
        BootChain x = new BootChain();
        x.update(0, 4, 0);
        x.update(1, 5, 0);
        Check.equal("boot of two trials", x.boot(), 0);
        return x;
    }

    private static BootChain lostPower() {
        BootChain x = twoTrials();
        x.power(3);
        Check.illegal("boot that loses its power", x::boot);
        return x;
    }

    private static void inEveryState(String when, Supplier<BootChain> maker) {
        for (int n : new int[] {LOW, -1, 0, 9, HIGH}) {
            bad(when + ": payload of " + n, maker, x -> x.payload(1, n));
        }
        for (int words : new int[] {LOW, -2, 1001, HIGH}) {
            bad(when + ": power " + words, maker, x -> x.power(words));
        }
        for (int stage : new int[] {LOW, -1, 2, HIGH}) {
            bad(when + ": runs " + stage, maker, x -> x.runs(stage));
            bad(when + ": counter " + stage, maker, x -> x.counter(stage));
            bad(when + ": register of " + stage, maker, x -> x.register(stage, 0));
            badUpdate(when + ": update of stage " + stage, maker, x -> x.update(stage, 1, 0));
        }
        for (int version : new int[] {LOW, -1, 256, HIGH}) {
            badUpdate(when + ": loader " + version, maker, x -> x.update(0, version, 0));
            badUpdate(when + ": kernel " + version, maker, x -> x.update(1, version, 0));
        }
        wordsOfHashes(when, maker);
        wordsOfTheFlash(when, maker);
    }

    private static void wordsOfHashes(String when, Supplier<BootChain> maker) {
        for (int word : new int[] {LOW, -1, 8, HIGH}) {
            bad(when + ": register 0 " + word, maker, x -> x.register(0, word));
            bad(when + ": register 1 " + word, maker, x -> x.register(1, word));
            bad(when + ": quote " + word, maker, x -> x.quote(1, word));
            bad(when + ": hash of 1, " + word, maker, x -> x.hash(0, 1, word));
        }
        for (int words : new int[] {LOW, -1, 25, HIGH}) {
            bad(when + ": hash of " + words, maker, x -> x.hash(0, words, 0));
        }
    }

    private static void wordsOfTheFlash(String when, Supplier<BootChain> maker) {
        for (int place : new int[] {LOW, -1, 6, HIGH}) {
            badWord(when, maker, place, 0);
        }
        for (int word : new int[] {LOW, -1, 16, HIGH}) {
            badWord(when, maker, 0, word);
            badWord(when, maker, 3, word);
        }
        for (int word : new int[] {LOW, -1, 3, 15, HIGH}) {
            badWord(when, maker, 4, word);
            badWord(when, maker, 5, word);
        }
    }

    private static void badWord(String when, Supplier<BootChain> maker, int place, int word) {
        bad(when + ": flash " + place + " " + word, maker, x -> x.flash(place, word));
        bad(when + ": spoil " + place + " " + word, maker, x -> x.spoil(place, word, -1));
    }

    private static void notBothRun(String when, Supplier<BootChain> maker) {
        BootChain confirming = prepared(maker);
        int[] before = Seen.of(confirming);
        Check.illegal(when + ": confirm", confirming::confirm);
        leftAlone(when + ": confirm", confirming, before, 3);
        BootChain quoting = prepared(maker);
        Check.illegal(when + ": quote", () -> quoting.quote(1, 0));
        leftAlone(when + ": quote", quoting, before, 3);
    }

    private static void bad(String what, Supplier<BootChain> maker, Consumer<BootChain> call) {
        refused(what, maker, call, 3);
    }

    /** Of a refused update the document says that the draft is empty afterwards all the same. */
    private static void badUpdate(
            String what, Supplier<BootChain> maker, Consumer<BootChain> call) {
        refused(what, maker, call, 0);
    }

    private static void refused(
            String what, Supplier<BootChain> maker, Consumer<BootChain> call, int bytesLeft) {
        BootChain x = prepared(maker);
        int[] before = Seen.of(x);
        Check.bad(what, () -> call.accept(x));
        leftAlone(what, x, before, bytesLeft);
    }

    private static BootChain prepared(Supplier<BootChain> maker) {
        BootChain x = maker.get();
        x.payload(0x0A0B0CL, 3);
        x.power(POWER);
        return x;
    }

    /** Two updates of 20 words go through, and five words of a third one. */
    private static void leftAlone(String what, BootChain x, int[] before, int bytesLeft) {
        Seen.same(what, x, before);
        int slot = x.update(0, 9, 0);
        Check.equal(what + ": head", x.flash(slot, 0), 256 * 9 + bytesLeft);
        Check.equal(what + ": payload", x.flash(slot, 1), bytesLeft == 0 ? 0 : 0x0A0B0C00);
        x.update(1, 9, 0);
        for (int i = 0; i < 3; i++) {
            x.payload(-1, 8);
        }
        Check.illegal(what + ": third update", () -> x.update(0, 9, 0));
        Check.equal(what + ": fifth word", x.flash(slot, 4), -1);
        Check.equal(what + ": sixth word", x.flash(slot, 5), 0);
    }
}
