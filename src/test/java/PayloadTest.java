/** Promise 2: the draft of a payload. */
public final class PayloadTest {
    public static void main(String[] args) {
        lowestBytesHighestFirst();
        everyLength();
        wrongInputs();
        Check.end();
    }

    private static void lowestBytesHighestFirst() {
        BootChain x = new BootChain();
        x.payload(0x1122334455667788L, 3);
        x.payload(-1L, 1);
        x.payload(0x8182838485868788L, 8);
        x.payload(0xAB00L, 1);
        x.payload(0xCDEFL, 2);
        int slot = x.update(0, 7, 0);
        Check.equal("head", x.flash(slot, 0), 256 * 7 + 15);
        Check.equal("word 1", x.flash(slot, 1), 0x667788FF);
        Check.equal("word 2", x.flash(slot, 2), 0x81828384);
        Check.equal("word 3", x.flash(slot, 3), 0x85868788);
        Check.equal("word 4", x.flash(slot, 4), 0x00CDEF00);
        Check.equal("word 5", x.flash(slot, 5), 0);
        Check.equal("word 6", x.flash(slot, 6), 0);
    }

    private static void everyLength() {
        for (int length = 0; length <= 24; length++) {
            BootChain x = new BootChain();
            for (int i = 1; i <= length; i++) {
                x.payload(i, 1);
            }
            int slot = x.update(1, 0, 0);
            Check.equal("length " + length, x.flash(slot, 0), 65536 + length);
            for (int i = 0; i < 24; i++) {
                int octet = x.flash(slot, 1 + i / 4) >>> 24 - 8 * (i % 4) & 255;
                Check.equal("byte " + i + " of " + length, octet, i < length ? i + 1 : 0);
            }
        }
    }

    private static void wrongInputs() {
        BootChain x = new BootChain();
        for (int n : new int[] {Integer.MIN_VALUE, -1, 0, 9, 24, 25, Integer.MAX_VALUE}) {
            Check.bad("payload of " + n, () -> x.payload(1, n));
        }
        for (int i = 0; i < 3; i++) {
            x.payload(0x0102030405060708L, i == 2 ? 7 : 8);
        }
        Check.illegal("payload of 2 behind 23", () -> x.payload(1, 2));
        Check.illegal("payload of 8 behind 23", () -> x.payload(1, 8));
        x.payload(0xEE, 1);
        Check.illegal("payload of 1 behind 24", () -> x.payload(1, 1));
        Check.bad("payload of 9 behind 24", () -> x.payload(1, 9));
        int slot = x.update(0, 0, 0);
        Check.equal("24 bytes", x.flash(slot, 0), 24);
        Check.equal("what was refused left nothing", x.flash(slot, 6), 0x060708EE);
        x.payload(1, 8);
        x.payload(1, 8);
        x.payload(1, 8);
    }
}
