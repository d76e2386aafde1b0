/** Promise 13: quotes. */
public final class QuoteTest {
    public static void main(String[] args) {
        BootChain x = new BootChain();
        Check.illegal("new", () -> x.quote(1, 0));
        Check.bad("no such word, and nothing runs", () -> x.quote(1, 8));
        x.update(0, 3, 0);
        Check.equal("boot", x.boot(), 2);
        Check.illegal("the loader alone", () -> x.quote(1, 0));
        x.update(1, 4, 0);
        Check.equal("boot", x.boot(), 0);
        for (int nonce : new int[] {0, 1, -1, 77, Integer.MIN_VALUE, Integer.MAX_VALUE}) {
            every(x, nonce);
        }
        for (int word : new int[] {-1, 8, Integer.MIN_VALUE, Integer.MAX_VALUE}) {
            Check.bad("word " + word, () -> x.quote(1, word));
        }
        x.power(0);
        Check.illegal("boot without power", x::boot);
        Check.illegal("off", () -> x.quote(1, 0));
        Check.end();
    }

    private static void every(BootChain x, int nonce) {
        int[] loader = Tools.registerAfter(Tools.measured(0, 3, 0));
        int[] kernel = Tools.registerAfter(Tools.measured(1, 4, 0));
        int[] key = {9, 10, 11, 12};
        int[] due = Tools.hashOf(Tools.join(key, loader, kernel, new int[] {nonce}));
        for (int word = 0; word < 8; word++) {
            Check.equal("quote " + nonce + " " + word, x.quote(nonce, word), due[word]);
        }
    }
}
