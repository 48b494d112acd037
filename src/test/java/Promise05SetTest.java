/** Promise 5, with what "Terms" says of the set of a seed. */
public final class Promise05SetTest {
    private static final Check CHECK = new Check("promise 5");

    public static void main(String[] args) {
        CHECK.test("The set of a seed as bits", Promise05SetTest::asBits);
        CHECK.test("as bits, word 31 among them", Promise05SetTest::word31IsTheTopBit);
        CHECK.test("s is the seed at first; a number r is drawn", Promise05SetTest::firstNumberHasNoPart);
        CHECK.test("each taken modulo K", Promise05SetTest::numbersModuloK);
        CHECK.test("each taken modulo K, never beyond the row", Promise05SetTest::neverBeyondTheRow);
        CHECK.test("until there are so many different ones", Promise05SetTest::drawnTwiceCountsOnce);
        CHECK.test("until there are so many, when it is all K", Promise05SetTest::wholeRow);
        CHECK.test("until there are so many, when it is one", Promise05SetTest::oneWord);
        CHECK.test("THE SET in a row of one word", Promise05SetTest::rowOfOne);
        CHECK.test("A SEED is an int, at its ends", Promise05SetTest::seedsAtTheEnds);
        CHECK.test("THE SET of a seed, whatever came", Promise05SetTest::doesNotFollowTheState);
        CHECK.end();
    }

    private static void asBits() {
        CHECK.due("set(0) of 8, words 0 and 4", new DropCode(7).set(0), 17);
        CHECK.due("set(1) of 8, words 0 and 6", new DropCode(7).set(1), 65);
        CHECK.due("set(2654307) of 8", new DropCode(7).set(2654307), 241);
        for (int k = 0; k <= 31; k++) {
            DropCode x = new DropCode(k);
            Model model = new Model(k);
            for (int n = 0; n < 500; n++) {
                int seed = n * 8589934 + Integer.MIN_VALUE;
                CHECK.due("set(" + seed + ") with k " + k, x.set(seed), model.set(seed));
            }
        }
    }

    private static void word31IsTheTopBit() {
        DropCode x = new DropCode(31);
        CHECK.due("set of word 31", x.set(Seeds.of(31, 31)), Integer.MIN_VALUE);
        CHECK.due("set of words 0 and 31", x.set(Seeds.of(31, 0, 31)), Integer.MIN_VALUE + 1);
        CHECK.due("set of word 30", x.set(Seeds.of(31, 30)), 1 << 30);
    }

    private static void firstNumberHasNoPart() {
        // With seed 0 the first number is 15470, which modulo 8 is 6; then 0 and 4 are drawn.
        CHECK.due("set(0) of 8", new DropCode(7).set(0), 17);
        // Of 3, seeds 0 and 1 have degree 1; their first numbers modulo 3 are 2 and 1.
        CHECK.due("set(0) of 3, word 1", new DropCode(2).set(0), 2);
        CHECK.due("set(1) of 3, word 2", new DropCode(2).set(1), 4);
    }

    private static void numbersModuloK() {
        CHECK.due("set(MAX) of 3, words 1 and 2", new DropCode(2).set(Integer.MAX_VALUE), 6);
        CHECK.due("set(MAX) of 7, words 6, 2 and 0", new DropCode(6).set(Integer.MAX_VALUE), 69);
        CHECK.due("set(-1) of 7, words 5 and 1", new DropCode(6).set(-1), 34);
        CHECK.due("set(0) of 31, words 28 and 16", new DropCode(30).set(0), 268500992);
        CHECK.due("set(1) of 31, words 20 and 0", new DropCode(30).set(1), 1048577);
    }

    private static void neverBeyondTheRow() {
        for (int k = 0; k < 31; k++) {
            DropCode x = new DropCode(k);
            for (int n = 0; n < 500; n++) {
                CHECK.due("words of set(" + n + ") beyond the row, k " + k, x.set(n) >>> k + 1, 0);
            }
        }
    }

    private static void drawnTwiceCountsOnce() {
        CHECK.due("set(MAX) of 2, drawn 1 1 1 1 0", new DropCode(1).set(Integer.MAX_VALUE), 3);
        CHECK.due("set(MIN) of 3, drawn 0 0 0 2", new DropCode(2).set(Integer.MIN_VALUE), 5);
        CHECK.due("set(MAX) of 8, drawn 7 3 7 5", new DropCode(7).set(Integer.MAX_VALUE), 168);
        CHECK.due("set(MAX) of 31, drawn 5 1 19 1 26", new DropCode(30).set(Integer.MAX_VALUE), 67633186);
    }

    private static void wholeRow() {
        for (int k = 0; k < 31; k++) {
            CHECK.due("set of the whole row, k " + k, new DropCode(k).set(Seeds.drawing(65535)), (1 << k + 1) - 1);
        }
        CHECK.due("set of the whole row, k 31", new DropCode(31).set(Seeds.drawing(65535)), -1);
        DropCode x = new DropCode(31);
        for (int low = 0; low < 500; low++) {
            CHECK.due("set of all 32, low bits " + low, x.set(Seeds.before(65535 << 16 | low)), -1);
        }
    }

    private static void oneWord() {
        for (int k = 0; k <= 31; k++) {
            DropCode x = new DropCode(k);
            for (int low = 0; low < 100; low++) {
                CHECK.due("words of a set of one, k " + k, Integer.bitCount(x.set(Seeds.before(low))), 1);
            }
        }
    }

    private static void rowOfOne() {
        DropCode x = new DropCode(0);
        for (int seed = -100; seed <= 100; seed++) {
            CHECK.due("set(" + seed + ") of 1", x.set(seed), 1);
        }
        CHECK.due("set(MIN) of 1", x.set(Integer.MIN_VALUE), 1);
        CHECK.due("set(MAX) of 1", x.set(Integer.MAX_VALUE), 1);
    }

    private static void seedsAtTheEnds() {
        DropCode x = new DropCode(31);
        CHECK.due("set(0)", x.set(0), 69632);
        CHECK.due("set(-1)", x.set(-1), 8388616);
        CHECK.due("set(MAX)", x.set(Integer.MAX_VALUE), -2136997880);
        CHECK.due("set(MIN)", x.set(Integer.MIN_VALUE), 33886208);
    }

    private static void doesNotFollowTheState() {
        DropCode x = Receivers.full();
        x.put(0, 9);
        CHECK.due("set(0) when full", x.set(0), 17);
        CHECK.due("set(0) again", x.set(0), 17);
        CHECK.due("drops() after it", x.drops(), 60);
        x.forget();
        CHECK.due("set(0) after forget", x.set(0), 17);
    }
}
