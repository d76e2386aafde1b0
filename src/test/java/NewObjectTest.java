/** Promise 1: a flash of zeros, any power, off. */
public final class NewObjectTest {
    public static void main(String[] args) {
        BootChain x = new BootChain();
        for (int place = 0; place < 6; place++) {
            for (int word = 0; word < (place < 4 ? 16 : 3); word++) {
                Check.equal("flash " + place + " " + word, x.flash(place, word), 0);
            }
        }
        Tools.isOff("new", x);
        Check.equal("state", x.state(), 0);
        Check.equal("counter 0", x.counter(0), 0);
        Check.equal("counter 1", x.counter(1), 0);
        Check.illegal("confirm", x::confirm);
        Check.illegal("quote", () -> x.quote(1, 0));
        Check.equal("boot", x.boot(), 1);
        anyPower();
        Check.end();
    }

    /** More words than any number that the host can name. */
    private static void anyPower() {
        BootChain x = new BootChain();
        for (int i = 0; i < 60; i++) {
            Check.equal("update " + i, x.update(i % 2, i, 0), 2 * (i % 2) + 1);
        }
        Check.equal("serial", x.flash(5, 0), 60);
        BootChain other = new BootChain();
        Check.equal("another object's flash", other.flash(5, 0), 0);
    }
}
