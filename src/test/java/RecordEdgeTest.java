/** Terms: a record, which one holds, and where and how the next one is written. */
public final class RecordEdgeTest {
    private static final int FIRST = 0x21;
    private static final int SECOND = 0x30;

    public static void main(String[] args) {
        noneIsValidAtFirst();
        noneIsValidAnyMore();
        slotsAreNoRecords();
        serialFromZeroOn();
        anotherSumIsInvalid();
        sumModulo();
        sumThatIsZero();
        greaterSerialHolds();
        sameSerial();
        invalidRecordDoesNotHold();
        nextGoesIntoTheOther();
        serialBehindTheGreatest();
        sumIsClearedFirst();
        clearedSumThatIsRight();
        everyStateIsKept();
        Check.end();
    }

    private static BootChain with(int serial0, int serial1) {
        BootChain x = new BootChain();
        Tools.putRecord(x, 4, serial0, FIRST);
        Tools.putRecord(x, 5, serial1, SECOND);
        return x;
    }

    /** When none is valid, serial 0 and state 0: the first record is record 0, with serial 1. */
    private static void noneIsValidAtFirst() {
        BootChain x = new BootChain();
        Check.equal("state", x.state(), 0);
        x.update(1, 1, 0);
        Tools.record("the first", x, 4, 1, 0xE0);
        Check.equal("record 1 is left", x.flash(5, 0) | x.flash(5, 1) | x.flash(5, 2), 0);
        x.update(0, 1, 0);
        Tools.record("the first stays", x, 4, 1, 0xE0);
        Tools.record("the second", x, 5, 2, 0xEE);
    }

    private static void noneIsValidAnyMore() {
        BootChain x = with(70, 71);
        x.spoil(4, 2, 1);
        Check.equal("one valid", x.state(), SECOND);
        x.spoil(5, 2, 1);
        Check.equal("none valid", x.state(), 0);
        Check.equal("the slot is that of state 0", x.update(0, 1, 0), 1);
        Tools.record("record 0", x, 4, 1, 0x0E);
        Check.equal("record 1 is left", x.flash(5, 0), 71);
    }

    /** Whatever the slots hold: without a valid record the state is 0, and the serial too. */
    private static void slotsAreNoRecords() {
        BootChain x = new BootChain();
        for (int slot = 0; slot < 4; slot++) {
            Tools.put(x, slot, 13, 6);
            Tools.put(x, slot, 14, 0x33);
            Tools.put(x, slot, 15, 31 * 6 + 0x33 + 12345);
            for (int word = 0; word < 13; word++) {
                x.spoil(slot, word, -1);
            }
        }
        Check.equal("full slots, no record", x.state(), 0);
        Check.equal("slot of the loader", x.update(0, 1, 0), 1);
        Tools.record("full slots, the first record", x, 4, 1, 0x0E);
        x.spoil(4, 2, 1);
        Check.equal("slot of the kernel", x.update(1, 1, 0), 3);
        Tools.record("full slots, once more", x, 4, 1, 0xE0);
    }

    /** A valid record with serial 0 holds; it is not the same as none. */
    private static void serialFromZeroOn() {
        BootChain x = new BootChain();
        Tools.putRecord(x, 5, 0, SECOND);
        Check.equal("serial 0 in record 1", x.state(), SECOND);
        x.update(0, 1, 0);
        Tools.record("next into record 0", x, 4, 1, SECOND | 0x0E);
        BootChain y = new BootChain();
        Tools.putRecord(y, 4, 0, FIRST);
        Check.equal("serial 0 in record 0", y.state(), FIRST);
        y.update(1, 1, 0);
        Tools.record("next into record 1", y, 5, 1, FIRST & 0x0F | 0xE0);
    }

    private static void anotherSumIsInvalid() {
        for (int place = 4; place < 6; place++) {
            BootChain x = new BootChain();
            Tools.putRecord(x, place, 6, FIRST);
            int sum = 31 * 6 + FIRST + 12345;
            for (int other : new int[] {sum - 1, sum + 1, sum ^ 0x80000000, 0, -sum}) {
                Tools.put(x, place, 2, other);
                Check.equal("sum " + other + " in " + place, x.state(), 0);
            }
            Tools.put(x, place, 2, sum);
            Check.equal("its sum in " + place, x.state(), FIRST);
        }
    }

    private static void sumModulo() {
        int[] serials = {0, 1, 0x08421084, 0x08421085, 0x7FFFFFFF, 0x80000000, -2, -1};
        int[] states = {0, 1, 0x7FFFFFFF, 0x80000000, -12345, -12346, -1};
        for (int serial : serials) {
            for (int state : states) {
                long whole = 31 * (serial & 0xFFFFFFFFL) + (state & 0xFFFFFFFFL) + 12345;
                BootChain x = new BootChain();
                Tools.put(x, 5, 0, serial);
                Tools.put(x, 5, 1, state);
                Tools.put(x, 5, 2, (int) (whole % 0x100000000L));
                Check.equal("state under serial " + serial, x.state(), state);
                x.spoil(5, 2, 1);
                Check.equal("state under another sum", x.state(), 0);
            }
        }
    }

    /** A record whose sum is due to be 0 is valid with 0. */
    private static void sumThatIsZero() {
        BootChain x = new BootChain();
        Tools.put(x, 4, 1, -12345);
        Check.equal("serial 0, sum 0", x.state(), -12345);
        x.spoil(4, 1, 1);
        Check.equal("another state", x.state(), 0);
    }

    private static void greaterSerialHolds() {
        int[] ascending = {0, 1, 2, 0x7FFFFFFE, 0x7FFFFFFF, 0x80000000, 0x80000001, -2, -1};
        for (int i = 0; i < ascending.length; i++) {
            for (int k = 0; k < ascending.length; k++) {
                BootChain x = with(ascending[i], ascending[k]);
                String what = ascending[i] + " and " + ascending[k];
                Check.equal(what, x.state(), k > i ? SECOND : FIRST);
            }
        }
    }

    /** When they are the same, record 0 holds, so the next one goes into record 1. */
    private static void sameSerial() {
        for (int serial : new int[] {0, 5, 0x7FFFFFFF, 0x80000000, -2}) {
            BootChain x = with(serial, serial);
            Check.equal("twice " + serial, x.state(), FIRST);
            Check.equal("slot", x.update(0, 1, 0), 0);
            Tools.record("record 0 stays", x, 4, serial, FIRST);
            Tools.record("record 1", x, 5, serial + 1, 0x2F);
        }
    }

    private static void invalidRecordDoesNotHold() {
        BootChain x = with(3, 4);
        x.spoil(5, 0, 0x40000000);
        Check.equal("a greater serial, invalid", x.state(), FIRST);
        BootChain y = with(4, 3);
        y.spoil(4, 1, 0x10);
        Check.equal("record 0 invalid", y.state(), SECOND);
        Check.equal("slot", y.update(1, 1, 0), 3 - (SECOND >> 4 & 1));
        Tools.record("over the invalid one", y, 4, 4, 0xF0);
    }

    private static void nextGoesIntoTheOther() {
        BootChain x = with(8, 7);
        x.update(0, 1, 0);
        Tools.record("record 0 stays", x, 4, 8, FIRST);
        Tools.record("record 1", x, 5, 9, 0x2F);
        x.update(0, 1, 0);
        Tools.record("record 1 stays", x, 5, 9, 0x2F);
        Tools.record("record 0", x, 4, 10, 0x2F);
    }

    /** Behind 2^32 - 1 comes 0, which is not greater: what held goes on holding. */
    private static void serialBehindTheGreatest() {
        BootChain x = with(-2, 3);
        x.update(0, 1, 0);
        Tools.record("the greatest", x, 5, -1, 0x2F);
        Check.equal("it holds", x.state(), 0x2F);
        x.update(1, 1, 0);
        Tools.record("behind it", x, 4, 0, 0xEF);
        Check.equal("the greatest holds", x.state(), 0x2F);
        x.spoil(5, 2, 1);
        Check.equal("it is invalid", x.state(), 0xEF);
        x.update(0, 1, 0);
        Tools.record("from 0 on", x, 5, 1, 0xEF);
        Check.equal("it holds", x.state(), 0xEF);
    }

    /** 0 into word 2, then the words 0, 1, 2; the old record holds until the last of them. */
    private static void sumIsClearedFirst() {
        int sum = 31 * 9 + 0x2F + 12345;
        int old = 31 * 7 + SECOND + 12345;
        int[][] due = {
            {7, SECOND, old}, {7, SECOND, 0}, {9, SECOND, 0}, {9, 0x2F, 0}, {9, 0x2F, sum}
        };
        for (int words = 0; words <= 4; words++) {
            BootChain x = with(8, 7);
            x.power(16 + words);
            if (words < 4) {
                Check.illegal("update", () -> x.update(0, 1, 0));
            } else {
                Check.equal("update", x.update(0, 1, 0), 0);
            }
            for (int word = 0; word < 3; word++) {
                String what = words + " words of a record: word " + word;
                Check.equal(what, x.flash(5, word), due[words][word]);
            }
            Check.equal(words + " words of a record", x.state(), words < 4 ? FIRST : 0x2F);
        }
    }

    /** A sum of 0 is right for some records: such a one holds when the power ends behind it. */
    private static void clearedSumThatIsRight() {
        BootChain x = with(1, 0);
        int state = -(31 * 9 + 12345);
        Tools.put(x, 5, 0, 9);
        Tools.put(x, 5, 1, state);
        Tools.put(x, 5, 2, 5);
        Check.equal("invalid before", x.state(), FIRST);
        x.power(17);
        Check.illegal("update", () -> x.update(0, 1, 0));
        Check.equal("valid behind it", x.state(), state);
    }

    /** Bits of the other stage, and those of no stage, go from record to record. */
    private static void everyStateIsKept() {
        for (int bit = 0; bit < 32; bit++) {
            BootChain x = new BootChain();
            Tools.putRecord(x, 5, 1, 1 << bit);
            x.update(0, 1, 0);
            int loader = bit < 1 || bit > 3 ? 1 << bit | 0x0E : 0x0E;
            Check.equal("loader over bit " + bit, x.state(), loader);
            BootChain y = new BootChain();
            Tools.putRecord(y, 5, 1, 1 << bit);
            y.update(1, 1, 0);
            int kernel = bit < 5 || bit > 7 ? 1 << bit | 0xE0 : 0xE0;
            Check.equal("kernel over bit " + bit, y.state(), kernel);
        }
    }
}
