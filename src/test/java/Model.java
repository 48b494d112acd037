import java.util.ArrayDeque;
import java.util.ArrayList;
import java.util.Deque;
import java.util.List;
import java.util.Set;
import java.util.TreeSet;

/**
 * The document's words said again as literally as Java lets them be, with sets and lists in place of
 * bits, so that it shares no way of reckoning with DropCode.
 */
final class Model {
    private record Came(Set<Integer> set, int word) {
    }

    private final int size;
    private final int[] row;
    private final List<Came> came = new ArrayList<>();
    private final Integer[] known;
    private final List<Integer> order = new ArrayList<>();
    private final Deque<Integer> queue = new ArrayDeque<>();
    private int clashes = 0;

    Model(int k) {
        int rest = k % 32;
        size = (rest < 0 ? rest + 32 : rest) + 1;
        row = new int[size];
        known = new Integer[size];
    }

    int size() {
        return size;
    }

    private static long next(long state) {
        return (state * 1664525L + 1013904223L) & 0xFFFFFFFFL;
    }

    private static long unsigned(int seed) {
        return seed & 0xFFFFFFFFL;
    }

    int degree(int seed) {
        long r = next(unsigned(seed)) / 65536;
        for (int d = 1; d <= size; d++) {
            long together = 65536 / size;
            for (int j = 2; j <= d; j++) {
                together += 65536 / (j * (j - 1));
            }
            if (r < together) {
                return d;
            }
        }
        return size;
    }

    private Set<Integer> members(int seed) {
        long state = next(unsigned(seed));
        int degree = degree(seed);
        Set<Integer> members = new TreeSet<>();
        while (members.size() < degree) {
            state = next(state);
            members.add((int) (state / 65536 % size));
        }
        return members;
    }

    int set(int seed) {
        long bits = 0;
        for (int i : members(seed)) {
            bits += 1L << i;
        }
        return (int) bits;
    }

    int put(int i, int v) {
        if (i < 0 || i >= size) {
            return -1;
        }
        row[i] = v;
        return 1;
    }

    int drop(int seed) {
        int xor = 0;
        for (int i : members(seed)) {
            xor ^= row[i];
        }
        return xor;
    }

    private int openBy(Came drop) {
        int open = 0;
        for (int i : drop.set()) {
            open += known[i] == null ? 1 : 0;
        }
        return open;
    }

    private int xorOfKnown(Came drop) {
        int xor = 0;
        for (int i : drop.set()) {
            xor ^= known[i] == null ? 0 : known[i];
        }
        return xor;
    }

    private void clashIfNotItsWord(Came drop) {
        clashes += xorOfKnown(drop) != drop.word() ? 1 : 0;
    }

    int receive(int seed, int word) {
        if (came.size() == 60) {
            return -2;
        }
        Came drop = new Came(members(seed), word);
        came.add(drop);
        if (openBy(drop) == 1) {
            queue.addLast(came.size() - 1);
        } else if (openBy(drop) == 0) {
            clashIfNotItsWord(drop);
        }
        while (!queue.isEmpty()) {
            goOut(came.get(queue.removeFirst()));
        }
        return order.size();
    }

    private void goOut(Came first) {
        if (openBy(first) == 0) {
            clashIfNotItsWord(first);
            return;
        }
        int told = -1;
        for (int i : first.set()) {
            told = known[i] == null ? i : told;
        }
        known[told] = first.word() ^ xorOfKnown(first);
        order.add(told);
        for (int n = 0; n < came.size(); n++) {
            if (came.get(n).set().contains(told) && openBy(came.get(n)) == 1) {
                queue.addLast(n);
            }
        }
        for (int n = 0; n < came.size(); n++) {
            if (came.get(n).set().contains(told) && openBy(came.get(n)) == 0 && !queue.contains(n)) {
                clashIfNotItsWord(came.get(n));
            }
        }
    }

    int known(int i) {
        return i < 0 || i >= size ? -1 : known[i] == null ? 0 : 1;
    }

    int word(int i) {
        return i < 0 || i >= size || known[i] == null ? 0 : known[i];
    }

    int order(int k) {
        return k < 0 || k >= order.size() ? -1 : order.get(k);
    }

    int open(int n) {
        return n < 0 || n >= came.size() ? -1 : openBy(came.get(n));
    }

    int drops() {
        return came.size();
    }

    int count() {
        return order.size();
    }

    int clashes() {
        return clashes;
    }

    int forget() {
        int had = came.size();
        came.clear();
        order.clear();
        java.util.Arrays.fill(known, null);
        clashes = 0;
        return had;
    }
}
