/** Promise 1, with what "Terms" says of the row. */
public final class Promise01NewObjectTest {
    private static final Check CHECK = new Check("promise 1");

    public static void main(String[] args) {
        CHECK.test("K is 1 more than k", Promise01NewObjectTest::kFrom0To31);
        CHECK.test("modulo 32, from 32 on", Promise01NewObjectTest::kFrom32OnWrapsAround);
        CHECK.test("modulo 32 (0 .. 31), below 0", Promise01NewObjectTest::kBelow0WrapsAround);
        CHECK.test("THE ROW has K words, numbered from 0", Promise01NewObjectTest::rowIsNumberedFrom0);
        CHECK.test("words, at first 0", Promise01NewObjectTest::wordsAreAtFirst0);
        CHECK.test("a new receiver is empty", Promise01NewObjectTest::newReceiverIsEmpty);
        CHECK.test("a new object is its own", Promise01NewObjectTest::twoObjectsShareNothing);
        CHECK.end();
    }

    private static void kFrom0To31() {
        for (int k = 0; k <= 31; k++) {
            sizeIs(k, k + 1);
        }
    }

    private static void kFrom32OnWrapsAround() {
        sizeIs(32, 1);
        sizeIs(33, 2);
        sizeIs(63, 32);
        sizeIs(64, 1);
        sizeIs(Integer.MAX_VALUE - 31, 1);
        sizeIs(Integer.MAX_VALUE - 1, 31);
        sizeIs(Integer.MAX_VALUE, 32);
    }

    private static void kBelow0WrapsAround() {
        sizeIs(-1, 32);
        sizeIs(-2, 31);
        sizeIs(-31, 2);
        sizeIs(-32, 1);
        sizeIs(-33, 32);
        sizeIs(-64, 1);
        sizeIs(Integer.MIN_VALUE, 1);
        sizeIs(Integer.MIN_VALUE + 1, 2);
        sizeIs(Integer.MIN_VALUE + 31, 32);
    }

    private static void sizeIs(int k, int size) {
        DropCode x = new DropCode(k);
        String of = " with k " + k;
        CHECK.due("known(" + (size - 1) + ")" + of, x.known(size - 1), 0);
        CHECK.due("known(" + size + ")" + of, x.known(size), DropCode.BAD);
        CHECK.due("degree of the whole row" + of, x.degree(Seeds.drawing(65535)), size);
        CHECK.due("set of the whole row" + of, x.set(Seeds.drawing(65535)), (int) ((1L << size) - 1));
    }

    private static void rowIsNumberedFrom0() {
        for (int k = 0; k <= 31; k++) {
            DropCode x = new DropCode(k);
            CHECK.due("put(-1, 1) with k " + k, x.put(-1, 1), DropCode.BAD);
            CHECK.due("put(0, 1) with k " + k, x.put(0, 1), 1);
            CHECK.due("put(" + k + ", 1) with k " + k, x.put(k, 1), 1);
            CHECK.due("put(" + (k + 1) + ", 1) with k " + k, x.put(k + 1, 1), DropCode.BAD);
        }
    }

    private static void wordsAreAtFirst0() {
        for (int k = 0; k <= 31; k++) {
            DropCode x = new DropCode(k);
            for (int i = 0; i <= k; i++) {
                CHECK.due("drop of word " + i + " with k " + k, x.drop(Seeds.of(k, i)), 0);
            }
        }
    }

    private static void newReceiverIsEmpty() {
        for (int k = 0; k <= 31; k++) {
            DropCode x = new DropCode(k);
            CHECK.due("drops()", x.drops(), 0);
            CHECK.due("count()", x.count(), 0);
            CHECK.due("clashes()", x.clashes(), 0);
            CHECK.due("open(0)", x.open(0), DropCode.BAD);
            CHECK.due("order(0)", x.order(0), DropCode.BAD);
            for (int i = 0; i <= k; i++) {
                CHECK.due("known(" + i + ") with k " + k, x.known(i), 0);
                CHECK.due("word(" + i + ") with k " + k, x.word(i), 0);
            }
        }
    }

    private static void twoObjectsShareNothing() {
        DropCode x = Receivers.knowingThree();
        x.put(0, 77);
        x.receive(Seeds.of(7, 0), 1);
        DropCode y = new DropCode(7);
        CHECK.due("drop of word 0 of the new one", y.drop(Seeds.of(7, 0)), 0);
        CHECK.due("drops() of the new one", y.drops(), 0);
        CHECK.due("count() of the new one", y.count(), 0);
        CHECK.due("clashes() of the new one", y.clashes(), 0);
        y.put(0, 78);
        y.receive(Seeds.of(7, 0), 12);
        CHECK.due("drop of word 0 of the old one", x.drop(Seeds.of(7, 0)), 77);
        CHECK.due("word(0) of the old one", x.word(0), 5);
        CHECK.due("drops() of the old one", x.drops(), 4);
        CHECK.due("clashes() of the old one", x.clashes(), 1);
    }
}
