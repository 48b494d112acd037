/** Seeds that do what a test needs. */
final class Seeds {
    private Seeds() {
    }

    /** A seed with which r (0 .. 65535) is the first number drawn. */
    static int drawing(int r) {
        int inverse = 1;
        // Newton's step doubles the right bits of the inverse of an odd number.
        for (int i = 0; i < 5; i++) {
            inverse *= 2 - 1664525 * inverse;
        }
        return ((r << 16) - 1013904223) * inverse;
    }

    /** A seed whose set, in a row of k + 1 words, is just these words. */
    static int of(int k, int... words) {
        int bits = 0;
        for (int i : words) {
            bits |= 1 << i;
        }
        Model model = new Model(k);
        for (int seed = 0; seed < 50_000_000; seed++) {
            if (model.degree(seed) == words.length && model.set(seed) == bits) {
                return seed;
            }
        }
        throw new IllegalArgumentException("no such seed was found");
    }
}
