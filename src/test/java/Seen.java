/** All that the host can ask about an object, in one row: tells whether a call changed anything. */
final class Seen {
    private Seen() {}

    /** 91 calls of the 512 that an object is promised for. */
    static int[] of(BootChain x) {
        int[] answers = new int[91];
        int at = 0;
        for (int place = 0; place < 6; place++) {
            for (int word = 0; word < (place < 4 ? 16 : 3); word++) {
                answers[at++] = x.flash(place, word);
            }
        }
        answers[at++] = x.state();
        for (int stage = 0; stage < 2; stage++) {
            answers[at++] = x.counter(stage);
            answers[at++] = x.runs(stage);
            for (int word = 0; word < 8; word++) {
                answers[at++] = x.register(stage, word);
            }
        }
        return answers;
    }

    static void same(String when, BootChain x, int[] before) {
        int[] after = of(x);
        for (int i = 0; i < after.length; i++) {
            Check.equal(when + ": answer " + i + " of all", after[i], before[i]);
        }
    }
}
