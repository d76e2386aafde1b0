/** Promise 4: how many words can be written. */
public final class PowerTest {
    public static void main(String[] args) {
        wrongInputs();
        countsDown();
        most();
        staysLost();
        spoilNeedsNone();
        Check.end();
    }

    private static void wrongInputs() {
        BootChain x = new BootChain();
        x.power(20);
        for (int words : new int[] {-2, 1001, Integer.MIN_VALUE, Integer.MAX_VALUE}) {
            Check.bad("power " + words, () -> x.power(words));
        }
        Check.equal("what was refused left the power", x.update(0, 1, 0), 1);
        Check.illegal("and no more than it was", () -> x.update(0, 1, 0));
    }

    private static void countsDown() {
        BootChain x = new BootChain();
        x.power(40);
        Check.equal("first", x.update(0, 1, 0), 1);
        Check.equal("second", x.update(1, 1, 0), 3);
        Check.equal("nothing to write", x.state(), 0xEE);
        Check.illegal("a boot that must write", x::boot);
        x.power(0);
        Check.illegal("a boot that must write", x::boot);
        x.power(8);
        Check.equal("a boot of eight words", x.boot(), 0);
    }

    private static void most() {
        BootChain x = new BootChain();
        x.power(1000);
        for (int i = 0; i < 50; i++) {
            Check.equal("update " + i, x.update(0, 1, 0), 1);
        }
        Check.illegal("word 1001", () -> x.update(0, 1, 0));
        x.power(-1);
        for (int i = 0; i < 60; i++) {
            Check.equal("update " + i, x.update(0, 1, 0), 1);
        }
    }

    private static void staysLost() {
        BootChain x = new BootChain();
        x.power(1);
        Check.illegal("update", () -> x.update(0, 1, 0));
        Check.illegal("update again", () -> x.update(0, 2, 0));
        Check.equal("only the first word", x.flash(1, 0), 256);
        Check.equal("a boot that writes nothing", x.boot(), 1);
        x.power(-1);
        Check.equal("power again", x.update(0, 3, 0), 1);
    }

    private static void spoilNeedsNone() {
        BootChain x = new BootChain();
        x.power(0);
        x.spoil(0, 3, 5);
        Check.equal("spoilt", x.flash(0, 3), 5);
        Tools.putImage(x, 0, 1);
        Tools.putImage(x, 2, 1);
        Check.equal("boot without writing", x.boot(), 0);
        x.confirm();
        Check.equal("confirm without writing", x.counter(0), 1);
    }
}
