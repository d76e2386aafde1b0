/** Promises 7 to 12: what the host can ask, and spoil. */
public final class AskTest {
    private static final int[] NO_STAGES = {-1, 2, 3, Integer.MIN_VALUE, Integer.MAX_VALUE};

    public static void main(String[] args) {
        wrongStages();
        runs();
        words();
        state();
        registers();
        spoilOfWhatRuns();
        Check.end();
    }

    private static void wrongStages() {
        BootChain x = Tools.running(1, 1);
        for (int stage : NO_STAGES) {
            Check.bad("runs " + stage, () -> x.runs(stage));
            Check.bad("counter " + stage, () -> x.counter(stage));
            Check.bad("register " + stage, () -> x.register(stage, 0));
        }
    }

    private static void runs() {
        for (int state = 0; state < 4; state++) {
            BootChain x = new BootChain();
            for (int slot = 0; slot < 4; slot++) {
                Tools.putImage(x, slot, 1);
            }
            Tools.putRecord(x, 4, 0, (state & 1) + 16 * (state >> 1));
            Check.equal("before", x.runs(0), -1);
            Check.equal("boot", x.boot(), 0);
            Check.equal("loader in " + state, x.runs(0), state & 1);
            Check.equal("kernel in " + state, x.runs(1), 2 + (state >> 1));
        }
    }

    private static void words() {
        BootChain x = new BootChain();
        for (int place = 0; place < 6; place++) {
            for (int word = 0; word < (place < 4 ? 16 : 3); word++) {
                x.spoil(place, word, 0x10000 * place + word + 1);
            }
        }
        for (int place = -1; place < 8; place++) {
            for (int word = -2; word < 20; word++) {
                oneWord(x, place, word);
            }
        }
        for (int far : new int[] {Integer.MIN_VALUE, Integer.MAX_VALUE}) {
            oneWord(x, far, 0);
            oneWord(x, 0, far);
            oneWord(x, 5, far);
        }
        x.spoil(3, 15, 0xF0F0F0F0);
        Check.equal("turned over again", x.flash(3, 15), 0x30010 ^ 0xF0F0F0F0);
        x.spoil(3, 15, 0);
        Check.equal("no bit", x.flash(3, 15), 0x30010 ^ 0xF0F0F0F0);
    }

    private static void oneWord(BootChain x, int place, int word) {
        boolean is = place >= 0 && place < 6 && word >= 0 && word < (place < 4 ? 16 : 3);
        if (is) {
            int due = 0x10000 * place + word + 1;
            Check.equal("flash " + place + " " + word, x.flash(place, word), due);
        } else {
            Check.bad("flash " + place + " " + word, () -> x.flash(place, word));
            Check.bad("spoil " + place + " " + word, () -> x.spoil(place, word, 1));
        }
    }

    private static void state() {
        BootChain x = new BootChain();
        Tools.putRecord(x, 5, 0, 77);
        Check.equal("record 1 alone, serial 0", x.state(), 77);
        Tools.putRecord(x, 4, 0, 66);
        Check.equal("the same serial", x.state(), 66);
        Tools.putRecord(x, 5, 1, 77);
        Check.equal("record 1 greater", x.state(), 77);
        Tools.putRecord(x, 4, 0x80000000, 66);
        Check.equal("a number from 0 on", x.state(), 66);
        Tools.putRecord(x, 5, -1, -77);
        Check.equal("the greatest", x.state(), -77);
        x.spoil(5, 2, 0x80000000);
        Check.equal("the greatest is invalid", x.state(), 66);
        x.spoil(4, 0, 1);
        Check.equal("both are invalid", x.state(), 0);
        x.spoil(5, 2, 0x80000000);
        Check.equal("valid again", x.state(), -77);
        x.spoil(5, 1, 1);
        Check.equal("another state, the old sum", x.state(), 0);
        serialOfNone();
        serialAfterTheLast();
    }

    private static void serialOfNone() {
        BootChain x = new BootChain();
        Tools.putRecord(x, 4, 8, 0);
        Tools.putRecord(x, 5, 9, 0x11);
        x.spoil(4, 2, 1);
        x.spoil(5, 2, 1);
        Check.equal("the slots of state 0", x.update(0, 1, 0), 1);
        Tools.record("none was valid", x, 4, 1, 14);
        Check.equal("the other one stays", x.flash(5, 0), 9);
    }

    /** A serial has 32 bits: behind the last comes 0, which does not hold. */
    private static void serialAfterTheLast() {
        BootChain x = new BootChain();
        Tools.putRecord(x, 4, -1, 0);
        x.update(0, 1, 0);
        Tools.record("written", x, 5, 0, 14);
        Check.equal("state", x.state(), 0);
    }

    private static void registers() {
        BootChain x = new BootChain();
        x.payload(0xABCDEFL, 3);
        x.update(0, 1, 0);
        x.payload(0x12L, 1);
        x.update(1, 2, 0);
        Check.equal("zeros before", x.register(1, 7), 0);
        x.boot();
        int[] loader = Tools.registerAfter(Tools.measured(0, 1, 3, 0xABCDEF00));
        int[] kernel = Tools.registerAfter(Tools.measured(1, 2, 1, 0x12000000));
        for (int times = 0; times < 2; times++) {
            for (int word = 0; word < 8; word++) {
                Check.equal("register 0 " + word, x.register(0, word), loader[word]);
                Check.equal("register 1 " + word, x.register(1, word), kernel[word]);
            }
            Check.equal("boot again", x.boot(), 0);
        }
        for (int word : new int[] {-1, 8, 16, Integer.MIN_VALUE, Integer.MAX_VALUE}) {
            Check.bad("register 0 " + word, () -> x.register(0, word));
            Check.bad("register 1 " + word, () -> x.register(1, word));
        }
    }

    private static void spoilOfWhatRuns() {
        BootChain x = Tools.running(1, 1);
        int register = x.register(0, 0);
        x.spoil(0, 1, 1);
        Check.equal("it runs on", x.runs(0), 0);
        Check.equal("with its register", x.register(0, 0), register);
        Check.equal("and its counter", x.counter(0), 0);
    }
}
