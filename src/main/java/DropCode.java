/**
 * A row of words given out as drops, each the xor of some of them that a number tells;
 * drops that come in any order, and what of the row they make known, step by step.
 */
public final class DropCode {
    public static final int BAD = -1;
    public static final int FULL = -2;

    private static final int MOST_WORDS = 32;
    private static final int MOST_DROPS = 60;

    private static final int DRAW_FACTOR = 1664525;
    private static final int DRAW_STEP = 1013904223;
    private static final int DRAW_SHIFT = 16;
    private static final int DRAW_RANGE = 65536;

    // The document tells no bound for the draws of one set. Over the whole period of the states, for every
    // size of the row, each number comes again within 812 draws, so this bound is never met.
    private static final int MOST_DRAWS = 1000000;

    private final int size;
    private final int[] row;

    private final int[] dropSets = new int[MOST_DROPS];
    private final int[] dropWords = new int[MOST_DROPS];
    private int dropCount = 0;

    // Only the words whose bit stands in knownBits count; the others may be left from before a forget.
    private final int[] knownWords;
    private final int[] knownOrder;
    private int knownBits = 0;

    private final int[] queue = new int[MOST_DROPS];
    private int queueEnd = 0;

    private int clashCount = 0;

    public DropCode(int k) {
        size = Math.floorMod(k, MOST_WORDS) + 1;
        row = new int[size];
        knownWords = new int[size];
        knownOrder = new int[size];
    }

    public int put(int i, int v) {
        if (!isInRow(i)) {
            return BAD;
        }
        row[i] = v;
        return 1;
    }

    public int drop(int seed) {
        return xorOf(row, setOf(seed));
    }

    public int degree(int seed) {
        return degreeOf(drawn(nextState(seed)));
    }

    public int set(int seed) {
        return setOf(seed);
    }

    public int receive(int seed, int word) {
        if (dropCount >= MOST_DROPS) {
            return FULL;
        }
        int n = dropCount;
        dropSets[n] = setOf(seed);
        dropWords[n] = word;
        dropCount++;
        queueEnd = 0;
        int unknown = unknownCount(n);
        if (unknown == 1) {
            enqueue(n);
        } else if (unknown == 0) {
            noteIfClash(n);
        }
        runQueue();
        return knownCount();
    }

    public int known(int i) {
        if (!isInRow(i)) {
            return BAD;
        }
        return isKnown(i) ? 1 : 0;
    }

    public int word(int i) {
        // The document has no BAD here: a word that the row does not have is not known either.
        return isInRow(i) && isKnown(i) ? knownWords[i] : 0;
    }

    public int order(int k) {
        return k >= 0 && k < knownCount() ? knownOrder[k] : BAD;
    }

    public int open(int n) {
        return n >= 0 && n < dropCount ? unknownCount(n) : BAD;
    }

    public int drops() {
        return dropCount;
    }

    public int count() {
        return knownCount();
    }

    public int clashes() {
        return clashCount;
    }

    public int forget() {
        int came = dropCount;
        dropCount = 0;
        knownBits = 0;
        clashCount = 0;
        return came;
    }

    private boolean isInRow(int i) {
        return i >= 0 && i < size;
    }

    private static int nextState(int state) {
        return state * DRAW_FACTOR + DRAW_STEP;
    }

    private static int drawn(int state) {
        return state >>> DRAW_SHIFT;
    }

    private int degreeOf(int number) {
        int bound = DRAW_RANGE / size;
        for (int d = 1; d < size; d++) {
            if (number < bound) {
                return d;
            }
            bound += DRAW_RANGE / ((d + 1) * d);
        }
        return size;
    }

    private int setOf(int seed) {
        int state = nextState(seed);
        int wanted = degreeOf(drawn(state));
        int bits = 0;
        for (int i = 0; i < MOST_DRAWS && Integer.bitCount(bits) < wanted; i++) {
            state = nextState(state);
            bits |= 1 << (drawn(state) % size);
        }
        return bits;
    }

    private static int xorOf(int[] words, int bits) {
        int xor = 0;
        for (int i = 0; i < words.length; i++) {
            if (hasBit(bits, i)) {
                xor ^= words[i];
            }
        }
        return xor;
    }

    private static boolean hasBit(int bits, int i) {
        return (bits >>> i & 1) != 0;
    }

    private boolean isKnown(int i) {
        return hasBit(knownBits, i);
    }

    private int knownCount() {
        return Integer.bitCount(knownBits);
    }

    private int unknownBits(int n) {
        return dropSets[n] & ~knownBits;
    }

    private int unknownCount(int n) {
        return Integer.bitCount(unknownBits(n));
    }

    private int xorOfKnown(int n) {
        return xorOf(knownWords, dropSets[n] & knownBits);
    }

    private void noteIfClash(int n) {
        if (xorOfKnown(n) != dropWords[n]) {
            clashCount++;
        }
    }

    private void enqueue(int n) {
        // A drop becomes open by one only once, so there is always a place.
        if (queueEnd < MOST_DROPS) {
            queue[queueEnd] = n;
            queueEnd++;
        }
    }

    private void runQueue() {
        for (int head = 0; head < MOST_DROPS && head < queueEnd; head++) {
            takeOut(queue[head]);
        }
    }

    private void takeOut(int n) {
        int unknown = unknownBits(n);
        if (unknown == 0) {
            noteIfClash(n);
            return;
        }
        int i = Integer.numberOfTrailingZeros(unknown);
        learn(i, dropWords[n] ^ xorOfKnown(n));
        enqueueOpenedBy(i);
    }

    private void learn(int i, int value) {
        knownWords[i] = value;
        knownOrder[knownCount()] = i;
        knownBits |= 1 << i;
    }

    // Those that are now open by none need no look here: each was open by one before, so it is still
    // in the queue and is looked at when it goes out, or it is the one that told the word and agrees.
    private void enqueueOpenedBy(int i) {
        for (int n = 0; n < dropCount; n++) {
            if (hasBit(dropSets[n], i) && unknownCount(n) == 1) {
                enqueue(n);
            }
        }
    }
}
