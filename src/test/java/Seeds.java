import java.util.HashMap;
import java.util.Map;

/** Seeds that do what a test needs. */
final class Seeds {
    private static final Map<Long, Integer> FOUND = new HashMap<>();

    private Seeds() {
    }

    /** A seed with which r (0 .. 65535) is the first number drawn. */
    static int drawing(int r) {
        return before(r << 16);
    }

    /** The seed from which the first draw goes to this state. */
    static int before(int state) {
        int inverse = 1;
        // Newton's step doubles the right bits of the inverse of an odd number.
        for (int i = 0; i < 5; i++) {
            inverse *= 2 - 1664525 * inverse;
        }
        return (state - 1013904223) * inverse;
    }

    /** A seed whose set, in a row of k + 1 words, is just these words. */
    static int of(int k, int... words) {
        int bits = 0;
        for (int i : words) {
            bits |= 1 << i;
        }
        int wanted = bits;
        return FOUND.computeIfAbsent((long) k << 32 | bits & 0xFFFFFFFFL, key -> search(k, wanted));
    }

    private static int search(int k, int bits) {
        Model model = new Model(k);
        for (int seed = 0; seed < 50_000_000; seed++) {
            if (model.degree(seed) == Integer.bitCount(bits) && model.set(seed) == bits) {
                return seed;
            }
        }
        throw new IllegalArgumentException("no such seed was found");
    }
}
