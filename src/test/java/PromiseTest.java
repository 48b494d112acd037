/** Each promise of the document by itself: ordinary inputs, the edges that it names, wrong inputs. */
public final class PromiseTest {
    private static final int BAD = -1;
    private static final int FULL = -2;
    private static final int[] NO_INDEX = {-1, -2, -32, Integer.MIN_VALUE, Integer.MAX_VALUE};

    private static final Check CHECK = new Check("PromiseTest");

    public static void main(String[] args) {
        promise1NewObject();
        promise1SizeOfTheRow();
        promise2Put();
        promise3Drop();
        promise4DegreeAtItsBounds();
        promise5Set();
        promises4And5ForManySeeds();
        promise6Receive();
        promise6FullAfterSixty();
        promise7Known();
        promise8Word();
        promise9Order();
        promise10Open();
        promise11Drops();
        promise12Count();
        promise13ClashOnComing();
        promise13ClashFromTheQueue();
        promise13QueuedButOnce();
        promise14Forget();
        promise14ForgetKeepsTheRow();
        CHECK.end();
    }

    private static void due(String call, int got, int want) {
        CHECK.due(call, got, want);
    }

    private static void promise1NewObject() {
        for (int k = 0; k < 32; k++) {
            DropCode x = new DropCode(k);
            due("1: drops()", x.drops(), 0);
            due("1: count()", x.count(), 0);
            due("1: clashes()", x.clashes(), 0);
            due("1: open(0)", x.open(0), BAD);
            due("1: order(0)", x.order(0), BAD);
            for (int i = 0; i <= k; i++) {
                due("1: known(" + i + ")", x.known(i), 0);
                due("1: word(" + i + ")", x.word(i), 0);
            }
            for (int seed = 0; seed < 50; seed++) {
                due("1: drop(" + seed + ")", x.drop(seed), 0);
            }
        }
    }

    private static void promise1SizeOfTheRow() {
        for (int k = 0; k < 32; k++) {
            sizeIs(k, k + 1);
        }
        sizeIs(32, 1);
        sizeIs(33, 2);
        sizeIs(63, 32);
        sizeIs(-1, 32);
        sizeIs(-2, 31);
        sizeIs(-31, 2);
        sizeIs(-32, 1);
        sizeIs(-33, 32);
        sizeIs(Integer.MAX_VALUE, 32);
        sizeIs(Integer.MIN_VALUE, 1);
        sizeIs(Integer.MIN_VALUE + 1, 2);
    }

    private static void sizeIs(int k, int size) {
        DropCode x = new DropCode(k);
        due("1: known of the last word, k " + k, x.known(size - 1), 0);
        due("1: known beyond the last word, k " + k, x.known(size), BAD);
        due("1: put of the last word, k " + k, x.put(size - 1, 1), 1);
        due("1: put beyond the last word, k " + k, x.put(size, 1), BAD);
        due("1: degree when no bound is over the number, k " + k, x.degree(Seeds.drawing(65535)), size);
    }

    private static void promise2Put() {
        DropCode x = new DropCode(7);
        int seedOf3 = Seeds.of(7, 3);
        due("2: put(3, 9)", x.put(3, 9), 1);
        due("2: drop of word 3", x.drop(seedOf3), 9);
        due("2: put(3, MIN)", x.put(3, Integer.MIN_VALUE), 1);
        due("2: drop of word 3 put again", x.drop(seedOf3), Integer.MIN_VALUE);
        due("2: drop of another word", x.drop(Seeds.of(7, 4)), 0);
        due("2: put(8, 1)", x.put(8, 1), BAD);
        for (int i : NO_INDEX) {
            due("2: put(" + i + ", 1)", x.put(i, 1), BAD);
        }
        for (int i = 0; i < 8; i++) {
            due("2: after bad puts, drop of word " + i, x.drop(Seeds.of(7, i)), i == 3 ? Integer.MIN_VALUE : 0);
        }
        due("2: a put makes nothing known", x.known(3), 0);
        due("2: word(3)", x.word(3), 0);
    }

    private static void promise3Drop() {
        DropCode x = new DropCode(7);
        for (int i = 0; i < 8; i++) {
            x.put(i, 1 << i);
        }
        due("3: drop of 0, 4", x.drop(0), 17);
        due("3: drop of 1, 2, 5", x.drop(Seeds.of(7, 1, 2, 5)), 38);
        due("3: drop of all", x.drop(Seeds.of(7, 0, 1, 2, 3, 4, 5, 6, 7)), 255);
        x.put(4, 3);
        x.put(0, 3);
        due("3: equal words cancel", x.drop(0), 0);
        x.put(4, -1);
        due("3: drop below 0", x.drop(0), -4);
        due("3: no drop came by it", x.drops(), 0);
    }

    private static void promise4DegreeAtItsBounds() {
        // 65536 / 8 and then 65536 / (j (j - 1)), summed with the rests left off.
        int[] boundsOfEight = {8192, 40960, 51882, 57343, 60619, 62803, 64363, 65533};
        DropCode x = new DropCode(7);
        due("4: degree when 0 is drawn", x.degree(Seeds.drawing(0)), 1);
        for (int d = 1; d <= 8; d++) {
            int bound = boundsOfEight[d - 1];
            due("4: degree just under bound " + d, x.degree(Seeds.drawing(bound - 1)), d);
            due("4: degree at bound " + d, x.degree(Seeds.drawing(bound)), Math.min(d + 1, 8));
        }
        due("4: degree when 65535 is drawn", x.degree(Seeds.drawing(65535)), 8);
        due("4: K 1, 0 drawn", new DropCode(0).degree(Seeds.drawing(0)), 1);
        due("4: K 1, 65535 drawn", new DropCode(0).degree(Seeds.drawing(65535)), 1);
        due("4: K 2, 32767 drawn", new DropCode(1).degree(Seeds.drawing(32767)), 1);
        due("4: K 2, 32768 drawn", new DropCode(1).degree(Seeds.drawing(32768)), 2);
        due("4: K 3, 54612 drawn", new DropCode(2).degree(Seeds.drawing(54612)), 2);
        due("4: K 3, 54613 drawn", new DropCode(2).degree(Seeds.drawing(54613)), 3);
        due("4: K 3, 65535 drawn", new DropCode(2).degree(Seeds.drawing(65535)), 3);
        due("4: K 32, 2047 drawn", new DropCode(31).degree(Seeds.drawing(2047)), 1);
        due("4: K 32, 2048 drawn", new DropCode(31).degree(Seeds.drawing(2048)), 2);
    }

    private static void promise5Set() {
        due("5: set(0) of 8", new DropCode(7).set(0), 17);
        due("5: set(1) of 8", new DropCode(7).set(1), 65);
        due("5: set(2654307) of 8", new DropCode(7).set(2654307), 241);
        due("5: set(-1) of 32", new DropCode(31).set(-1), 8388616);
        due("5: set(MAX) of 32 has word 31", new DropCode(31).set(Integer.MAX_VALUE), -2136997880);
        due("5: set of all 32", new DropCode(31).set(Seeds.drawing(65535)), -1);
        due("5: set of all 31", new DropCode(30).set(Seeds.drawing(65535)), Integer.MAX_VALUE);
        for (int seed = -100; seed < 100; seed++) {
            due("5: set(" + seed + ") of 1", new DropCode(0).set(seed), 1);
        }
    }

    private static void promises4And5ForManySeeds() {
        for (int k = 0; k < 32; k++) {
            DropCode x = new DropCode(k);
            Model model = new Model(k);
            for (int n = 0; n < 3000; n++) {
                // Nothing is promised after an object's 512th call, so a new one takes over in time.
                x = n % 250 == 0 ? new DropCode(k) : x;
                int seed = n * 1431655 + Integer.MIN_VALUE;
                due("4: degree(" + seed + ") with k " + k, x.degree(seed), model.degree(seed));
                due("5: set(" + seed + ") with k " + k, x.set(seed), model.set(seed));
            }
        }
    }

    private static DropCode chainOfThree() {
        DropCode x = new DropCode(7);
        due("6: 0 and 1 come", x.receive(Seeds.of(7, 0, 1), 5 ^ 6), 0);
        due("6: 1 and 2 come", x.receive(Seeds.of(7, 1, 2), 6 ^ 9), 0);
        due("6: 0 comes, 1 and 2 follow", x.receive(Seeds.of(7, 0), 5), 3);
        return x;
    }

    private static void promise6Receive() {
        DropCode x = chainOfThree();
        due("6: the same comes again", x.receive(Seeds.of(7, 0), 5), 3);
        due("6: two that are not known", x.receive(Seeds.of(7, 1, 4, 5), 0), 3);
        due("6: one that is not known", x.receive(Seeds.of(7, 1, 2, 4), 6 ^ 9 ^ -3), 5);
        due("6: word(4)", x.word(4), -3);
        due("6: word(5)", x.word(5), -3 ^ 6);
        due("6: the row is left alone", x.drop(Seeds.of(7, 0)), 0);
        x.put(0, 77);
        due("6: what is known does not follow the row", x.word(0), 5);
    }

    private static void promise6FullAfterSixty() {
        DropCode x = new DropCode(7);
        int pair = Seeds.of(7, 0, 1);
        for (int n = 0; n < 59; n++) {
            due("6: drop " + n, x.receive(pair, 3), 0);
        }
        due("6: the sixtieth drop", x.receive(Seeds.of(7, 0), 1), 2);
        due("6: one more", x.receive(Seeds.of(7, 5), 1), FULL);
        due("6: one more that would clash", x.receive(Seeds.of(7, 0), 2), FULL);
        due("6: drops() when full", x.drops(), 60);
        due("6: count() when full", x.count(), 2);
        due("6: known(5) when full", x.known(5), 0);
        due("6: clashes() when full", x.clashes(), 0);
        due("6: open(59) when full", x.open(59), 0);
        due("6: open(60) when full", x.open(60), BAD);
        due("6: forget() when full", x.forget(), 60);
        due("6: a drop after forget", x.receive(Seeds.of(7, 5), 1), 1);
    }

    private static void promise7Known() {
        DropCode x = chainOfThree();
        for (int i = 0; i < 8; i++) {
            due("7: known(" + i + ")", x.known(i), i < 3 ? 1 : 0);
        }
        due("7: known(8)", x.known(8), BAD);
        for (int i : NO_INDEX) {
            due("7: known(" + i + ")", x.known(i), BAD);
        }
        DropCode wide = new DropCode(31);
        wide.receive(Seeds.of(31, 31), 0);
        due("7: known(31), known as 0", wide.known(31), 1);
        due("7: known(30)", wide.known(30), 0);
        due("7: known(32)", wide.known(32), BAD);
        due("7: known(63)", wide.known(63), BAD);
    }

    private static void promise8Word() {
        DropCode x = chainOfThree();
        int[] words = {5, 6, 9, 0, 0, 0, 0, 0};
        for (int i = 0; i < 8; i++) {
            due("8: word(" + i + ")", x.word(i), words[i]);
        }
        due("8: word(8)", x.word(8), 0);
        for (int i : NO_INDEX) {
            due("8: word(" + i + ")", x.word(i), 0);
        }
        DropCode wide = new DropCode(31);
        wide.receive(Seeds.of(31, 0), 8);
        wide.receive(Seeds.of(31, 31), Integer.MIN_VALUE);
        due("8: word(31)", wide.word(31), Integer.MIN_VALUE);
        due("8: word(32)", wide.word(32), 0);
        due("8: word(-1) with word 31 known", wide.word(-1), 0);
    }

    private static void promise9Order() {
        DropCode x = new DropCode(7);
        x.receive(Seeds.of(7, 0, 3), 0);
        x.receive(Seeds.of(7, 0, 2), 0);
        x.receive(Seeds.of(7, 1, 3), 0);
        due("9: order(0) before any is known", x.order(0), BAD);
        due("9: four become known", x.receive(Seeds.of(7, 0), 0), 4);
        // Word 1 waits for drop 2, which goes into the queue behind drops 0 and 1.
        int[] order = {0, 3, 2, 1};
        for (int k = 0; k < 4; k++) {
            due("9: order(" + k + ")", x.order(k), order[k]);
        }
        due("9: order(4)", x.order(4), BAD);
        x.receive(Seeds.of(7, 7), 0);
        due("9: order(4) then", x.order(4), 7);
        due("9: order(7)", x.order(7), BAD);
        due("9: order(8)", x.order(8), BAD);
        for (int k : NO_INDEX) {
            due("9: order(" + k + ")", x.order(k), BAD);
        }
        DropCode all = new DropCode(31);
        for (int i = 31; i >= 0; i--) {
            all.receive(Seeds.of(31, i), i);
        }
        for (int k = 0; k < 32; k++) {
            due("9: order(" + k + ") of all", all.order(k), 31 - k);
        }
        due("9: order(32) of all", all.order(32), BAD);
    }

    private static void promise10Open() {
        DropCode x = new DropCode(7);
        x.receive(Seeds.of(7, 0, 1, 2), 0);
        x.receive(Seeds.of(7, 3, 4), 0);
        due("10: open(0)", x.open(0), 3);
        due("10: open(1)", x.open(1), 2);
        due("10: open(2)", x.open(2), BAD);
        x.receive(Seeds.of(7, 1), 0);
        due("10: open(0) with 1 known", x.open(0), 2);
        due("10: open(1) with 1 known", x.open(1), 2);
        due("10: open(2) that told 1", x.open(2), 0);
        x.receive(Seeds.of(7, 0), 0);
        due("10: open(0) with all known", x.open(0), 0);
        due("10: open(60)", x.open(60), BAD);
        for (int n : NO_INDEX) {
            due("10: open(" + n + ")", x.open(n), BAD);
        }
        x.forget();
        due("10: open(0) after forget", x.open(0), BAD);
    }

    private static void promise11Drops() {
        DropCode x = new DropCode(0);
        for (int n = 0; n < 65; n++) {
            due("11: drops() after " + n, x.drops(), Math.min(n, 60));
            x.receive(n, n % 2);
        }
        due("11: drops() after all", x.drops(), 60);
    }

    private static void promise12Count() {
        DropCode x = chainOfThree();
        due("12: count()", x.count(), 3);
        x.receive(Seeds.of(7, 0), 99);
        due("12: count() after a clash", x.count(), 3);
        DropCode all = new DropCode(31);
        for (int i = 0; i < 32; i++) {
            due("12: receive of word " + i, all.receive(Seeds.of(31, i), 0), i + 1);
            due("12: count() with " + i, all.count(), i + 1);
        }
    }

    private static void promise13ClashOnComing() {
        DropCode x = chainOfThree();
        due("13: clashes()", x.clashes(), 0);
        x.receive(Seeds.of(7, 0), 5);
        x.receive(Seeds.of(7, 0, 1, 2), 5 ^ 6 ^ 9);
        due("13: clashes() when all agree", x.clashes(), 0);
        x.receive(Seeds.of(7, 0), 4);
        due("13: clashes() after a wrong word", x.clashes(), 1);
        due("13: the known word stays", x.word(0), 5);
        x.receive(Seeds.of(7, 0), 4);
        due("13: clashes() after it comes again", x.clashes(), 2);
        x.receive(Seeds.of(7, 0, 1, 2), 0);
        due("13: clashes() after a wrong xor", x.clashes(), 3);
        x.receive(Seeds.of(7, 0, 7), 1);
        due("13: a drop that is open is no clash", x.clashes(), 3);
        due("13: clashing drops came too", x.drops(), 9);
    }

    private static void promise13ClashFromTheQueue() {
        DropCode x = new DropCode(7);
        x.receive(Seeds.of(7, 0, 1), 5);
        x.receive(Seeds.of(7, 0, 1), 6);
        x.receive(Seeds.of(7, 0, 1), 5);
        due("13: clashes() while open by two", x.clashes(), 0);
        due("13: 0 comes", x.receive(Seeds.of(7, 0), 8), 2);
        due("13: the first in the queue tells word 1", x.word(1), 5 ^ 8);
        due("13: clashes() from the queue", x.clashes(), 1);
        x.receive(Seeds.of(7, 3), 1);
        due("13: an old clash is not told again", x.clashes(), 1);
    }

    private static void promise13QueuedButOnce() {
        DropCode x = new DropCode(7);
        x.receive(Seeds.of(7, 0, 1), 1);
        x.receive(Seeds.of(7, 0, 2), 1);
        x.receive(Seeds.of(7, 0, 2), 2);
        // Drops 1 and 2 are in the queue when word 1 becomes known, which they do not have.
        due("13: 0 comes, 1 and 2 follow", x.receive(Seeds.of(7, 0), 0), 3);
        due("13: drop 2 clashes once", x.clashes(), 1);
    }

    private static void promise14Forget() {
        DropCode x = new DropCode(7);
        due("14: forget() of nothing", x.forget(), 0);
        x = chainOfThree();
        x.receive(Seeds.of(7, 0), 4);
        x.receive(Seeds.of(7, 6, 7), 4);
        due("14: clashes() before", x.clashes(), 1);
        due("14: forget()", x.forget(), 5);
        due("14: drops()", x.drops(), 0);
        due("14: count()", x.count(), 0);
        due("14: clashes()", x.clashes(), 0);
        due("14: order(0)", x.order(0), BAD);
        for (int i = 0; i < 8; i++) {
            due("14: known(" + i + ")", x.known(i), 0);
            due("14: word(" + i + ")", x.word(i), 0);
        }
        due("14: forget() again", x.forget(), 0);
        // What was known before has no part in what is made known now, nor have the drops that came.
        due("14: 0 and 1 come", x.receive(Seeds.of(7, 0, 1), 1), 0);
        due("14: open(0)", x.open(0), 2);
        due("14: 1 comes", x.receive(Seeds.of(7, 1), 2), 2);
        due("14: word(0)", x.word(0), 3);
        due("14: word(1)", x.word(1), 2);
        due("14: order(0)", x.order(0), 1);
        due("14: 7 comes", x.receive(Seeds.of(7, 7), 2), 3);
        due("14: clashes()", x.clashes(), 0);
    }

    private static void promise14ForgetKeepsTheRow() {
        DropCode x = new DropCode(7);
        x.put(0, 12);
        x.put(4, 3);
        x.receive(0, 1);
        x.forget();
        due("14: drop(0) after forget", x.drop(0), 15);
    }
}
