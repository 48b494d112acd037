/** Promise 6, with what "Terms" says of the receiver and its queue. */
public final class Promise06ReceiveTest {
    private static final Check CHECK = new Check("promise 6");

    public static void main(String[] args) {
        CHECK.test("how many words are known then, none", Promise06ReceiveTest::noneKnown);
        CHECK.test("how many words are known then, one more", Promise06ReceiveTest::oneMoreKnown);
        CHECK.test("how many words are known then, none more", Promise06ReceiveTest::noneMoreKnown);
        CHECK.test("how many words are known then, all", Promise06ReceiveTest::allKnown);
        CHECK.test("if it is open by one, it is put in the QUEUE", Promise06ReceiveTest::openByOneAmongKnown);
        CHECK.test("open by two, it waits", Promise06ReceiveTest::openByTwoWaits);
        CHECK.test("becomes known, as the xor of its word and the known ones", Promise06ReceiveTest::knownAsXor);
        CHECK.test("then all drops that are open by one by this are put in the queue",
                Promise06ReceiveTest::oneSetsOffTheOthers);
        CHECK.test("as long as there is something in the queue", Promise06ReceiveTest::longestChain);
        CHECK.test("its first one goes out", Promise06ReceiveTest::firstInFirstOut);
        CHECK.test("put in the queue, by their numbers", Promise06ReceiveTest::lowerNumberFirst);
        CHECK.test("in the queue, when all 60 go through it", Promise06ReceiveTest::allSixtyGoThrough);
        CHECK.test("if it is open by none now, it tells nothing", Promise06ReceiveTest::tellsNothingWhenOpenByNone);
        CHECK.test("DROPS that came, at most 60", Promise06ReceiveTest::sixtiethComes);
        CHECK.test("FULL when 60 came", Promise06ReceiveTest::fullWhen60Came);
        CHECK.test("FULL when 60 came, even when all clashed", Promise06ReceiveTest::clashingDropsFillToo);
        CHECK.test("FULL, and nothing changes", Promise06ReceiveTest::refusedDropChangesNothing);
        CHECK.test("FULL, and no more after forget", Promise06ReceiveTest::notFullAfterForget);
        CHECK.test("a seed and a word, at the ends of the ints", Promise06ReceiveTest::seedsAndWordsAtTheEnds);
        CHECK.test("A drop comes, the row stays", Promise06ReceiveTest::rowStays);
        CHECK.end();
    }

    private static void noneKnown() {
        DropCode x = new DropCode(7);
        CHECK.due("receive of words 0 and 1", x.receive(Seeds.of(7, 0, 1), 3), 0);
        CHECK.due("receive of all words", x.receive(Seeds.drawing(65535), 3), 0);
    }

    private static void oneMoreKnown() {
        DropCode x = new DropCode(7);
        CHECK.due("receive of word 7", x.receive(Seeds.of(7, 7), 3), 1);
        CHECK.due("receive of word 0", x.receive(Seeds.of(7, 0), 0), 2);
    }

    private static void noneMoreKnown() {
        DropCode x = Receivers.knowingThree();
        CHECK.due("receive of word 0 again", x.receive(Seeds.of(7, 0), 5), 3);
        CHECK.due("receive of word 0 that clashes", x.receive(Seeds.of(7, 0), 6), 3);
        CHECK.due("receive of words 4 and 5", x.receive(Seeds.of(7, 4, 5), 6), 3);
    }

    private static void allKnown() {
        for (int k = 0; k <= 31; k++) {
            DropCode x = new DropCode(k);
            for (int i = 0; i <= k; i++) {
                CHECK.due("receive of word " + i + " with k " + k, x.receive(Seeds.of(k, i), i), i + 1);
            }
            CHECK.due("one more with k " + k, x.receive(0, 0), k + 1);
        }
    }

    private static void openByOneAmongKnown() {
        DropCode x = Receivers.knowingThree();
        CHECK.due("receive of words 0, 1 and 6", x.receive(Seeds.of(7, 0, 1, 6), 5 ^ 6 ^ 40), 4);
        CHECK.due("known(6)", x.known(6), 1);
        CHECK.due("word(6)", x.word(6), 40);
    }

    private static void openByTwoWaits() {
        DropCode x = Receivers.knowingThree();
        CHECK.due("receive of words 1, 4 and 5", x.receive(Seeds.of(7, 1, 4, 5), 0), 3);
        CHECK.due("known(4)", x.known(4), 0);
        CHECK.due("known(5)", x.known(5), 0);
        CHECK.due("open(3)", x.open(3), 2);
        CHECK.due("receive of word 4", x.receive(Seeds.of(7, 4), 8), 5);
        CHECK.due("word(5)", x.word(5), 6 ^ 8);
    }

    private static void knownAsXor() {
        DropCode x = new DropCode(7);
        x.receive(Seeds.of(7, 3), -3);
        CHECK.due("word(3), alone in its set", x.word(3), -3);
        x.receive(Seeds.of(7, 5), 12);
        x.receive(Seeds.of(7, 3, 5, 6), 100);
        CHECK.due("word(6), with two known ones", x.word(6), 100 ^ -3 ^ 12);
        x.receive(Seeds.of(7, 3, 7), -3);
        CHECK.due("word(7), which is 0", x.word(7), 0);
        CHECK.due("known(7)", x.known(7), 1);
    }

    private static void oneSetsOffTheOthers() {
        DropCode x = new DropCode(7);
        CHECK.due("receive of words 0 and 1", x.receive(Seeds.of(7, 0, 1), 5 ^ 6), 0);
        CHECK.due("receive of words 1 and 2", x.receive(Seeds.of(7, 1, 2), 6 ^ 9), 0);
        CHECK.due("receive of words 0 and 3", x.receive(Seeds.of(7, 0, 3), 5 ^ 7), 0);
        CHECK.due("receive of words 4 and 5", x.receive(Seeds.of(7, 4, 5), 1), 0);
        CHECK.due("receive of word 0", x.receive(Seeds.of(7, 0), 5), 4);
        int[] words = {5, 6, 9, 7, 0, 0, 0, 0};
        for (int i = 0; i < 8; i++) {
            CHECK.due("word(" + i + ")", x.word(i), words[i]);
            CHECK.due("known(" + i + ")", x.known(i), i < 4 ? 1 : 0);
        }
    }

    private static void longestChain() {
        DropCode x = new DropCode(31);
        // Each drop is set off by one of a higher number, so one walk over the drops is not enough.
        for (int i = 30; i >= 0; i--) {
            CHECK.due("receive of words " + i + " and " + (i + 1), x.receive(Seeds.of(31, i, i + 1), 1), 0);
        }
        CHECK.due("receive of word 0", x.receive(Seeds.of(31, 0), 4), 32);
        for (int i = 0; i < 32; i++) {
            CHECK.due("order(" + i + ")", x.order(i), i);
            CHECK.due("word(" + i + ")", x.word(i), i % 2 == 0 ? 4 : 5);
        }
    }

    private static void firstInFirstOut() {
        DropCode x = new DropCode(7);
        x.receive(Seeds.of(7, 0, 3), 0);
        x.receive(Seeds.of(7, 0, 2), 0);
        x.receive(Seeds.of(7, 1, 3), 0);
        CHECK.due("receive of word 0", x.receive(Seeds.of(7, 0), 0), 4);
        // Drop 2 is opened by word 3, when drop 1 is in the queue already.
        int[] order = {0, 3, 2, 1};
        for (int k = 0; k < 4; k++) {
            CHECK.due("order(" + k + ")", x.order(k), order[k]);
        }
    }

    private static void lowerNumberFirst() {
        DropCode x = new DropCode(7);
        x.receive(Seeds.of(7, 0, 5), 0);
        x.receive(Seeds.of(7, 0, 2), 0);
        x.receive(Seeds.of(7, 0, 7), 0);
        x.receive(Seeds.of(7, 0, 1), 0);
        CHECK.due("receive of word 0", x.receive(Seeds.of(7, 0), 0), 5);
        int[] order = {0, 5, 2, 7, 1};
        for (int k = 0; k < 5; k++) {
            CHECK.due("order(" + k + ")", x.order(k), order[k]);
        }
    }

    private static void allSixtyGoThrough() {
        DropCode x = new DropCode(7);
        for (int n = 0; n < 59; n++) {
            x.receive(Seeds.of(7, 0, 1), n);
        }
        CHECK.due("the 60th opens all", x.receive(Seeds.of(7, 0), 1000), 2);
        CHECK.due("word(1), told by the first", x.word(1), 1000);
        CHECK.due("clashes() of all but the first", x.clashes(), 58);
        for (int n = 0; n < 60; n++) {
            CHECK.due("open(" + n + ")", x.open(n), 0);
        }
    }

    private static void tellsNothingWhenOpenByNone() {
        DropCode x = new DropCode(7);
        x.receive(Seeds.of(7, 0, 1), 5);
        x.receive(Seeds.of(7, 0, 1), 6);
        CHECK.due("receive of word 0", x.receive(Seeds.of(7, 0), 8), 2);
        CHECK.due("word(1), told by drop 0", x.word(1), 5 ^ 8);
        CHECK.due("order(1)", x.order(1), 1);
        CHECK.due("order(2)", x.order(2), DropCode.BAD);
    }

    private static void sixtiethComes() {
        DropCode x = new DropCode(7);
        for (int n = 0; n < 59; n++) {
            CHECK.due("drop " + n, x.receive(Seeds.of(7, 0, 1), 3), 0);
        }
        CHECK.due("drop 59", x.receive(Seeds.of(7, 0), 1), 2);
        CHECK.due("drops()", x.drops(), 60);
    }

    private static void fullWhen60Came() {
        DropCode x = Receivers.full();
        CHECK.due("the 61st", x.receive(Seeds.of(7, 5), 1), DropCode.FULL);
        CHECK.due("the 62nd", x.receive(Seeds.of(7, 5), 1), DropCode.FULL);
        CHECK.due("FULL", DropCode.FULL, -2);
    }

    private static void clashingDropsFillToo() {
        DropCode x = new DropCode(0);
        for (int n = 0; n < 60; n++) {
            CHECK.due("drop " + n + " of a row of one", x.receive(n, n), 1);
        }
        CHECK.due("clashes()", x.clashes(), 59);
        CHECK.due("the 61st", x.receive(60, 0), DropCode.FULL);
    }

    private static void refusedDropChangesNothing() {
        DropCode x = Receivers.full();
        CHECK.due("one that would be known", x.receive(Seeds.of(7, 5), 1), DropCode.FULL);
        CHECK.due("one that would clash", x.receive(Seeds.of(7, 0), 2), DropCode.FULL);
        CHECK.due("one that would wait", x.receive(Seeds.of(7, 4, 5), 2), DropCode.FULL);
        CHECK.due("drops()", x.drops(), 60);
        CHECK.due("count()", x.count(), 2);
        CHECK.due("known(5)", x.known(5), 0);
        CHECK.due("word(0)", x.word(0), 1);
        CHECK.due("clashes()", x.clashes(), 0);
        CHECK.due("open(59)", x.open(59), 0);
        CHECK.due("open(60)", x.open(60), DropCode.BAD);
        CHECK.due("order(2)", x.order(2), DropCode.BAD);
    }

    private static void notFullAfterForget() {
        DropCode x = Receivers.full();
        x.receive(Seeds.of(7, 5), 1);
        x.forget();
        for (int n = 0; n < 60; n++) {
            CHECK.due("drop " + n + " after forget", x.receive(Seeds.of(7, 5), 1), 1);
        }
        CHECK.due("the 61st after forget", x.receive(Seeds.of(7, 5), 1), DropCode.FULL);
    }

    private static void seedsAndWordsAtTheEnds() {
        DropCode x = new DropCode(0);
        CHECK.due("receive(MIN, MIN) in a row of one", x.receive(Integer.MIN_VALUE, Integer.MIN_VALUE), 1);
        CHECK.due("word(0)", x.word(0), Integer.MIN_VALUE);
        DropCode y = new DropCode(1);
        CHECK.due("receive(MAX, MAX), words 0 and 1", y.receive(Integer.MAX_VALUE, Integer.MAX_VALUE), 0);
        CHECK.due("receive(-1, MIN), word 1", y.receive(-1, Integer.MIN_VALUE), 2);
        CHECK.due("word(1)", y.word(1), Integer.MIN_VALUE);
        CHECK.due("word(0)", y.word(0), -1);
    }

    private static void rowStays() {
        DropCode x = new DropCode(7);
        x.put(0, 77);
        x.receive(Seeds.of(7, 0), 5);
        x.receive(Seeds.of(7, 1), 6);
        CHECK.due("drop of word 0", x.drop(Seeds.of(7, 0)), 77);
        CHECK.due("drop of word 1", x.drop(Seeds.of(7, 1)), 0);
    }
}
