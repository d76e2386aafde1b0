import java.util.Random;
import java.util.concurrent.Callable;

/** All promises: random runs of calls, each answer and the flash at the end against the model. */
public final class ModelTest {
    private static final int RUNS = 6000;
    private static final int MOST_CALLS = 300;
    private static final int[] SERIALS = {0, 1, 2, 3, 0x7FFFFFFF, 0x80000000, -2, -1};
    private static final int[] NUMBERS = {
        0, 0, 0, 1, 1, 2, 3, 5, 7, 8, 9, 15, 16, 24, 25, -1, 255, 256, 1000, 1001,
        Integer.MIN_VALUE, Integer.MAX_VALUE
    };

    private final Random random;
    private final int seed;
    private final BootChain chain = new BootChain();
    private final Model model = new Model();
    private int calls;
    private int settled;

    private ModelTest(int seed) {
        this.seed = seed;
        random = new Random(seed);
    }

    public static void main(String[] args) {
        int bothRan = 0;
        int wentOn = 0;
        for (int seed = 0; seed < RUNS; seed++) {
            ModelTest test = new ModelTest(seed);
            test.run();
            bothRan += test.settled > 0 ? 1 : 0;
            wentOn += test.model.counters[0] > 0 ? 1 : 0;
        }
        Check.holds("most runs boot: " + bothRan, bothRan > RUNS / 2);
        Check.holds("many runs confirm: " + wentOn, wentOn > RUNS / 10);
        Check.end();
    }

    private void run() {
        int length = 1 + random.nextInt(MOST_CALLS);
        while (calls < length) {
            step();
        }
        compareAll();
    }

    private int any() {
        return NUMBERS[random.nextInt(NUMBERS.length)];
    }

    private int oddly(int due) {
        return random.nextInt(40) == 0 ? any() : due;
    }

    private void step() {
        switch (random.nextInt(16)) {
            case 0:
            case 1:
                payload();
                break;
            case 2:
            case 3:
            case 4:
                update();
                break;
            case 5:
                power();
                break;
            case 6:
            case 7:
            case 8:
                boot();
                break;
            case 9:
            case 10:
                same("confirm()", () -> done(chain::confirm), () -> done(model::confirm));
                break;
            case 11:
                spoil();
                break;
            case 12:
                quote();
                break;
            case 13:
                record();
                break;
            case 14:
                image();
                break;
            default:
                same("state()", chain::state, model::state);
        }
    }

    private void payload() {
        long bytes = random.nextLong();
        int n = oddly(1 + random.nextInt(8));
        same("payload(" + bytes + ", " + n + ")",
                () -> done(() -> chain.payload(bytes, n)),
                () -> done(() -> model.payload(bytes, n)));
    }

    private void update() {
        int stage = oddly(random.nextInt(2));
        int version = oddly(random.nextInt(4) + random.nextInt(1 + calls / 10));
        int flaw = random.nextInt(4) == 0 ? random.nextInt() : 0;
        same("update(" + stage + ", " + version + ", " + flaw + ")",
                () -> chain.update(stage, version, flaw),
                () -> model.update(stage, version, flaw));
    }

    private void power() {
        int words = oddly(random.nextInt(3) == 0 ? random.nextInt(24) : -1);
        same("power(" + words + ")",
                () -> done(() -> chain.power(words)),
                () -> done(() -> model.power(words)));
    }

    private void boot() {
        same("boot()", chain::boot, model::boot);
        settled += model.runs[1] >= 0 ? 1 : 0;
    }

    private void spoil() {
        int place = oddly(random.nextInt(6));
        int word = oddly(random.nextInt(place < 4 ? 16 : 3));
        int bits = 1 << random.nextInt(32);
        both(place, word, bits);
        if (random.nextBoolean()) {
            boot();
            both(place, word, bits);
        }
    }

    private void both(int place, int word, int bits) {
        same("spoil(" + place + ", " + word + ", " + bits + ")",
                () -> done(() -> chain.spoil(place, word, bits)),
                () -> done(() -> model.spoil(place, word, bits)));
    }

    private void quote() {
        int nonce = random.nextInt();
        int word = oddly(random.nextInt(8));
        same("quote(" + nonce + ", " + word + ")",
                () -> chain.quote(nonce, word),
                () -> model.quote(nonce, word));
    }

    private void put(int place, int word, int value) {
        both(place, word, model.places[place][word] ^ value);
    }

    private void record() {
        int place = 4 + random.nextInt(2);
        int serial = SERIALS[random.nextInt(SERIALS.length)];
        int state = random.nextInt(5) == 0 ? random.nextInt() : random.nextInt(256);
        put(place, 0, serial);
        put(place, 1, state);
        put(place, 2, 31 * serial + state + 12345);
    }

    /** Words under a right seal that may be no image all the same. */
    private void image() {
        int slot = random.nextInt(4);
        int stage = oddly(slot / 2) & 1;
        int n = oddly(random.nextInt(26));
        int version = model.counters[slot / 2] - 1 + random.nextInt(3) & 255;
        int[] measured = Tools.measured(stage, version, n & 255);
        for (int i = 0; i < 24; i++) {
            if (i < n || random.nextInt(60) == 0) {
                measured[1 + i / 4] |= random.nextInt(256) << 24 - 8 * (i % 4);
            }
        }
        int[] words = Tools.join(measured, new int[1], Tools.sealOf(stage, measured));
        for (int i = 0; i < 16; i++) {
            put(slot, i, words[i]);
        }
    }

    private static String done(Runnable call) {
        call.run();
        return "done";
    }

    private void same(String call, Callable<?> chainCall, Callable<?> modelCall) {
        calls++;
        String got = answer(chainCall);
        String due = answer(modelCall);
        if (!got.equals(due)) {
            Check.holds("run " + seed + ", call " + calls + ": " + call + " answered " + got
                    + ", due is " + due + ", which", false);
        }
    }

    private static String answer(Callable<?> call) {
        try {
            return String.valueOf(call.call());
        } catch (Exception e) {
            return e.getClass().getName();
        }
    }

    private void compareAll() {
        String when = "end of run " + seed + ": ";
        for (int place = 0; place < 6; place++) {
            for (int word = 0; word < model.places[place].length; word++) {
                Check.equal(when + "flash " + place + " " + word,
                        chain.flash(place, word), model.places[place][word]);
            }
        }
        Check.equal(when + "state", chain.state(), model.state());
        for (int stage = 0; stage < 2; stage++) {
            Check.equal(when + "runs " + stage, chain.runs(stage), model.runs[stage]);
            Check.equal(when + "counter " + stage, chain.counter(stage), model.counters[stage]);
            for (int word = 0; word < 8; word++) {
                Check.equal(when + "register " + stage + " " + word,
                        chain.register(stage, word), model.registers[stage][word]);
            }
        }
    }
}
