/**
 * Terms, to boot: every state of the record with every choice of good slots, with power for just
 * the words that are due and with power for one word less.
 */
public final class BootTableTest {
    private static final int SERIAL = 0x7FFFFFFD;

    /** What the document asks of one stage. */
    private static final class Stage {
        /** The slot of the stage, 0 or 1; -1 when neither is good. */
        final int slot;
        final int bits;
        final int records;

        Stage(int bits, boolean[] good) {
            int active = bits & 1;
            int other = 1 - active;
            boolean trial = (bits & 2) != 0;
            int tries = bits >> 2;
            if (trial && tries > 0 && good[other]) {
                slot = other;
                this.bits = active + 2 + 4 * (tries - 1);
                records = 1;
                return;
            }
            slot = good[active] ? active : good[other] ? other : -1;
            this.bits = trial ? active : bits;
            records = !trial ? 0 : tries > 0 ? 2 : 1;
        }
    }

    public static void main(String[] args) {
        for (int state = 0; state < 256; state++) {
            for (int goodSlots = 0; goodSlots < 16; goodSlots++) {
                enough(state, goodSlots);
                oneWordLess(state, goodSlots);
            }
        }
        Check.end();
    }

    private static BootChain with(int state, int goodSlots) {
        BootChain x = new BootChain();
        for (int slot = 0; slot < 4; slot++) {
            Tools.putImage(x, slot, 1 + slot);
            if ((goodSlots >> slot & 1) == 0) {
                x.spoil(slot, 15, 1);
            }
        }
        Tools.putRecord(x, 5, SERIAL, state);
        return x;
    }

    private static Stage stageOf(int stage, int state, int goodSlots) {
        boolean[] good = {(goodSlots >> 2 * stage & 1) == 1, (goodSlots >> 2 * stage + 1 & 1) == 1};
        return new Stage(state >> 4 * stage & 15, good);
    }

    private static void enough(int state, int goodSlots) {
        Stage loader = stageOf(0, state, goodSlots);
        Stage kernel = stageOf(1, state, goodSlots);
        boolean further = loader.slot >= 0;
        int records = loader.records + (further ? kernel.records : 0);
        int kernelBits = further ? kernel.bits : state >> 4;
        int kernelSlot = further ? kernel.slot : -1;
        String when = "state " + state + ", good slots " + goodSlots;
        BootChain x = with(state, goodSlots);
        x.power(4 * records);
        Check.equal(when, x.boot(), !further ? 1 : kernelSlot < 0 ? 2 : 0);
        Check.equal(when + ": state", x.state(), loader.bits + 16 * kernelBits);
        if (records > 0) {
            int place = records % 2 == 0 ? 5 : 4;
            Tools.record(when, x, place, SERIAL + records, x.state());
        } else {
            Check.equal(when + ": record 0 is left", x.flash(4, 2), 0);
            Tools.record(when, x, 5, SERIAL, state);
        }
        runsAndRegister(when, x, 0, loader.slot);
        runsAndRegister(when, x, 1, kernelSlot);
    }

    private static void runsAndRegister(String when, BootChain x, int stage, int slotOfStage) {
        int slot = slotOfStage < 0 ? -1 : 2 * stage + slotOfStage;
        Check.equal(when + ": runs " + stage, x.runs(stage), slot);
        int[] due = new int[8];
        if (slot >= 0) {
            due = Tools.registerAfter(Tools.measured(stage, 1 + slot, 0));
        }
        for (int word = 0; word < 8; word++) {
            Check.equal(when + ": register " + stage, x.register(stage, word), due[word]);
        }
    }

    private static void oneWordLess(int state, int goodSlots) {
        Stage loader = stageOf(0, state, goodSlots);
        int further = loader.slot >= 0 ? stageOf(1, state, goodSlots).records : 0;
        int records = loader.records + further;
        if (records == 0) {
            return;
        }
        String when = "state " + state + ", good slots " + goodSlots + ", a word less";
        BootChain x = with(state, goodSlots);
        x.power(4 * records - 1);
        Check.illegal(when, x::boot);
        Tools.isOff(when, x);
        int place = records % 2 == 0 ? 5 : 4;
        Check.equal(when + ": serial", x.flash(place, 0), SERIAL + records);
        Check.equal(when + ": no sum", x.flash(place, 2), 0);
    }
}
