/** Promise 14: H of a row that counts. */
public final class HashTest {
    public static void main(String[] args) {
        int[] firsts = {0, 1, -1, 1633837924, Integer.MIN_VALUE, Integer.MAX_VALUE};
        for (int first : firsts) {
            BootChain x = new BootChain();
            for (int words = 24; words >= 0; words--) {
                every(x, first, words);
            }
        }
        BootChain x = new BootChain();
        for (int wrong : new int[] {-1, 25, 32, Integer.MIN_VALUE, Integer.MAX_VALUE}) {
            Check.bad(wrong + " words", () -> x.hash(0, wrong, 0));
        }
        for (int wrong : new int[] {-1, 8, Integer.MIN_VALUE, Integer.MAX_VALUE}) {
            Check.bad("word " + wrong, () -> x.hash(0, 24, wrong));
        }
        Check.bad("both", () -> x.hash(0, 25, 8));
        Check.end();
    }

    private static void every(BootChain x, int first, int words) {
        int[] row = new int[words];
        for (int i = 0; i < words; i++) {
            row[i] = first + i;
        }
        int[] due = Tools.hashOf(row);
        for (int word = 0; word < 8; word++) {
            Check.equal("hash " + first + " " + words + " " + word,
                    x.hash(first, words, word), due[word]);
        }
    }
}
