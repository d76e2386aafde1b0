/** Promises 2, 3, 8, 9, 13, 14 and the limit of calls: the last arguments that are taken. */
public final class CallEdgeTest {
    private static final int LOW = Integer.MIN_VALUE;
    private static final int HIGH = Integer.MAX_VALUE;

    public static void main(String[] args) {
        for (int n = 1; n <= 8; n++) {
            payloadUpTo24(n);
            lowestBytes(n);
        }
        payloadWhenFull();
        draftIsEmptyBehindAnUpdate();
        versions();
        flaws();
        lastWords();
        hashLengths();
        hashWrapsAround();
        hashBehindARefusedOne();
        nonces();
        callsOfAnObject();
        Check.end();
    }

    private static void fill(BootChain x, int bytes) {
        for (int i = 0; i < bytes; i++) {
            x.payload(0x5A, 1);
        }
    }

    /** 24 bytes are taken, 25 are not; what is refused appends nothing. */
    private static void payloadUpTo24(int n) {
        BootChain x = new BootChain();
        fill(x, 24 - n);
        x.payload(-1, n);
        int slot = x.update(0, 0, 0);
        Check.equal("24 bytes by " + n, x.flash(slot, 0), 24);
        Check.equal("the last byte", x.flash(slot, 6) & 255, 255);
        BootChain y = new BootChain();
        fill(y, 25 - n);
        Check.illegal("25 bytes by " + n, () -> y.payload(-1, n));
        int other = y.update(0, 0, 0);
        Check.equal("what stood before", y.flash(other, 0), 25 - n);
        Check.equal("the first byte", y.flash(other, 1) >>> 24, 0x5A);
        for (int at = 25 - n; at < 24; at++) {
            int octet = y.flash(other, 1 + at / 4) >>> 24 - 8 * (at % 4) & 255;
            Check.equal("byte " + at + " behind them", octet, 0);
        }
    }

    private static void lowestBytes(int n) {
        long bytes = 0xF1E2D3C4B5A69788L;
        BootChain x = new BootChain();
        x.payload(bytes, n);
        int slot = x.update(1, 1, 0);
        long first = (long) x.flash(slot, 1) << 32 | x.flash(slot, 2) & 0xFFFFFFFFL;
        Check.equal("lowest " + n, first, bytes << 64 - 8 * n);
        Check.equal("head", x.flash(slot, 0), 65536 + 256 + n);
    }

    private static void payloadWhenFull() {
        BootChain x = new BootChain();
        fill(x, 24);
        for (int n = 1; n <= 8; n++) {
            int more = n;
            Check.illegal("full, and " + n, () -> x.payload(1, more));
        }
        Check.bad("full, and 0", () -> x.payload(1, 0));
        Check.bad("full, and 9", () -> x.payload(1, 9));
        int slot = x.update(0, 1, 0);
        Check.equal("24 bytes", x.flash(slot, 0), 256 + 24);
        for (int word = 1; word <= 6; word++) {
            Check.equal("word " + word, x.flash(slot, word), 0x5A5A5A5A);
        }
        x.payload(1, 8);
        Check.equal("room again", x.flash(x.update(0, 1, 0), 0), 256 + 8);
    }

    private static void draftIsEmptyBehindAnUpdate() {
        int[][] updates = {{0, 0}, {1, 255}, {-1, 0}, {2, 0}, {0, -1}, {0, 256}, {2, 256}};
        for (int[] update : updates) {
            BootChain x = new BootChain();
            fill(x, 24);
            if (update[0] < 0 || update[0] > 1 || update[1] < 0 || update[1] > 255) {
                Check.bad("update", () -> x.update(update[0], update[1], 0));
            } else {
                x.update(update[0], update[1], 0);
            }
            fill(x, 1);
            int slot = x.update(0, 1, 0);
            Check.equal("one byte", x.flash(slot, 0), 256 + 1);
            Check.equal("the first word", x.flash(slot, 1), 0x5A000000);
            Check.equal("the last word", x.flash(slot, 6), 0);
        }
    }

    private static void versions() {
        for (int stage = 0; stage < 2; stage++) {
            BootChain x = new BootChain();
            int slot = x.update(stage, 0, 0);
            Check.equal("version 0", x.flash(slot, 0), 65536 * stage);
            Check.equal("version 255", x.update(stage, 255, 0), slot);
            Check.equal("its head", x.flash(slot, 0), 65536 * stage + 65280);
        }
    }

    private static void flaws() {
        for (int flaw : new int[] {0, 1, -1, LOW, HIGH}) {
            BootChain x = new BootChain();
            int slot = x.update(0, 3, flaw);
            int[] seal = Tools.sealOf(0, Tools.measured(0, 3, 0));
            for (int word = 0; word < 7; word++) {
                Check.equal("seal " + word, x.flash(slot, 8 + word), seal[word]);
            }
            Check.equal("its last word", x.flash(slot, 15), seal[7] ^ flaw);
            Check.equal("boot with flaw " + flaw, x.boot(), flaw == 0 ? 2 : 1);
        }
    }

    /** The first and last word of each place. */
    private static void lastWords() {
        BootChain x = new BootChain();
        for (int place = 0; place < 6; place++) {
            int last = place < 4 ? 15 : 2;
            x.spoil(place, 0, LOW + place);
            x.spoil(place, last, -1);
            x.spoil(place, last, HIGH - place);
        }
        for (int place = 0; place < 6; place++) {
            int last = place < 4 ? 15 : 2;
            Check.equal("first of " + place, x.flash(place, 0), LOW + place);
            Check.equal("second of " + place, x.flash(place, 1), 0);
            Check.equal("last of " + place, x.flash(place, last), LOW + place);
            Check.equal("the one before it", x.flash(place, last - 1), 0);
        }
    }

    /** Known answers for no word and for one ("abcd"), then each length, over one block and two. */
    private static void hashLengths() {
        BootChain x = new BootChain();
        Check.equal("no word, 0", x.hash(7, 0, 0), 0xe3b0c442);
        Check.equal("no word, 7", x.hash(-7, 0, 7), 0x7852b855);
        Check.equal("abcd, 0", x.hash(0x61626364, 1, 0), 0x88d4266f);
        Check.equal("abcd, 7", x.hash(0x61626364, 1, 7), 0x6f031589);
        for (int words = 0; words <= 24; words++) {
            hashed(x, 1, words);
        }
        for (int words = 24; words >= 0; words--) {
            hashed(x, LOW, words);
        }
    }

    private static void hashWrapsAround() {
        for (int before = 0; before <= 24; before++) {
            BootChain x = new BootChain();
            hashed(x, HIGH - before, 24);
            hashed(x, -before, 24);
        }
    }

    private static void hashed(BootChain x, int first, int words) {
        int[] row = new int[words];
        for (int i = 0; i < words; i++) {
            row[i] = first + i;
        }
        int[] due = Tools.hashOf(row);
        for (int word = 0; word < 8; word++) {
            String what = "hash of " + words + " from " + first + ", " + word;
            Check.equal(what, x.hash(first, words, word), due[word]);
        }
    }

    private static void hashBehindARefusedOne() {
        BootChain x = Tools.running(1, 1);
        int[] before = Seen.of(x);
        Check.bad("25 words", () -> x.hash(1, 25, 0));
        Check.bad("-1 words", () -> x.hash(1, -1, 7));
        Check.bad("word 8", () -> x.hash(1, 24, 8));
        Check.bad("word -1", () -> x.hash(1, 0, -1));
        hashed(x, 1, 24);
        Seen.same("a hash changes nothing", x, before);
    }

    private static void nonces() {
        BootChain x = Tools.running(2, 3);
        int[] before = Seen.of(x);
        int[] loader = Tools.registerAfter(Tools.measured(0, 2, 0));
        int[] kernel = Tools.registerAfter(Tools.measured(1, 3, 0));
        for (int nonce : new int[] {LOW, -1, 0, 1, HIGH}) {
            Check.bad("word -1", () -> x.quote(nonce, -1));
            Check.bad("word 8", () -> x.quote(nonce, 8));
            int[] rest = {nonce};
            int[] due = Tools.hashOf(Tools.join(new int[] {9, 10, 11, 12}, loader, kernel, rest));
            for (int word = 0; word < 8; word++) {
                Check.equal("quote for " + nonce, x.quote(nonce, word), due[word]);
            }
        }
        Seen.same("a quote changes nothing", x, before);
    }

    /** An object is good for 512 calls: here 509 updates, and three that look at the last. */
    private static void callsOfAnObject() {
        BootChain x = new BootChain();
        for (int i = 0; i < 509; i++) {
            Check.equal("update " + i, x.update(i % 2, i % 256, 0), 1 + 2 * (i % 2));
        }
        Check.equal("serial", x.flash(4, 0), 509);
        Check.equal("state", x.state(), 0xEE);
        Check.equal("call 512", x.boot(), 0);
    }
}
