/** Promise 13, with what "Terms" says of a clash. */
public final class Promise13ClashesTest {
    private static final Check CHECK = new Check("promise 13");

    public static void main(String[] args) {
        CHECK.test("How many clashes there were, none", Promise13ClashesTest::noneAtFirst);
        CHECK.test("by none, and the xor is not its word, it is a CLASH", Promise13ClashesTest::onComing);
        CHECK.test("by none, and the xor is its word, it is none", Promise13ClashesTest::agreeingIsNone);
        CHECK.test("open by one, it is no clash but tells", Promise13ClashesTest::openByOneIsNone);
        CHECK.test("the xor is not its word, by the top bit alone", Promise13ClashesTest::anyBitClashes);
        CHECK.test("goes out open by none now: a clash if that xor is not its word",
                Promise13ClashesTest::fromTheQueue);
        CHECK.test("goes out open by none now: none if that xor is its word",
                Promise13ClashesTest::agreeingFromTheQueueIsNone);
        CHECK.test("open by none by this and in the queue: once only", Promise13ClashesTest::inTheQueueOnce);
        CHECK.test("open by none by this and not in the queue: the teller agrees",
                Promise13ClashesTest::tellerAgrees);
        CHECK.test("clashes there were, each by itself", Promise13ClashesTest::eachIsCounted);
        CHECK.test("clashes there were, an old one is not told again", Promise13ClashesTest::oldOnesAreNotRepeated);
        CHECK.test("clashes there were, a refused drop is none", Promise13ClashesTest::refusedDropIsNone);
        CHECK.test("clashes there were, since the last forget", Promise13ClashesTest::sinceForget);
        CHECK.end();
    }

    private static void noneAtFirst() {
        CHECK.due("clashes() of a new object", new DropCode(7).clashes(), 0);
        CHECK.due("clashes() of a chain", Receivers.knowingThree().clashes(), 0);
        CHECK.due("clashes() when full", Receivers.full().clashes(), 0);
    }

    private static void onComing() {
        DropCode x = Receivers.knowingThree();
        x.receive(Seeds.of(7, 0), 4);
        CHECK.due("clashes() after a wrong word", x.clashes(), 1);
        x.receive(Seeds.of(7, 0, 1, 2), 0);
        CHECK.due("clashes() after a wrong xor of three", x.clashes(), 2);
        CHECK.due("word(0) stays", x.word(0), 5);
    }

    private static void agreeingIsNone() {
        DropCode x = Receivers.knowingThree();
        x.receive(Seeds.of(7, 0), 5);
        x.receive(Seeds.of(7, 0, 1, 2), 5 ^ 6 ^ 9);
        x.receive(Seeds.of(7, 0, 2), 5 ^ 9);
        CHECK.due("clashes()", x.clashes(), 0);
    }

    private static void openByOneIsNone() {
        DropCode x = Receivers.knowingThree();
        x.receive(Seeds.of(7, 0, 7), 1);
        CHECK.due("clashes()", x.clashes(), 0);
        CHECK.due("word(7)", x.word(7), 5 ^ 1);
        x.receive(Seeds.of(7, 0, 3, 4), 1);
        CHECK.due("clashes() after one that is open by two", x.clashes(), 0);
    }

    private static void anyBitClashes() {
        for (int bit = 0; bit < 32; bit++) {
            DropCode x = Receivers.knowingThree();
            x.receive(Seeds.of(7, 0), 5 ^ 1 << bit);
            CHECK.due("clashes() with bit " + bit + " wrong", x.clashes(), 1);
        }
    }

    private static void fromTheQueue() {
        DropCode x = new DropCode(7);
        x.receive(Seeds.of(7, 0, 1), 5);
        x.receive(Seeds.of(7, 0, 1), 6);
        CHECK.due("clashes() while both wait", x.clashes(), 0);
        x.receive(Seeds.of(7, 0), 8);
        CHECK.due("clashes()", x.clashes(), 1);
        CHECK.due("word(1), told by the first", x.word(1), 5 ^ 8);
    }

    private static void agreeingFromTheQueueIsNone() {
        DropCode x = new DropCode(7);
        x.receive(Seeds.of(7, 0, 1), 5);
        x.receive(Seeds.of(7, 0, 1), 5);
        x.receive(Seeds.of(7, 0), 8);
        CHECK.due("clashes()", x.clashes(), 0);
    }

    private static void inTheQueueOnce() {
        DropCode x = new DropCode(7);
        x.receive(Seeds.of(7, 0, 1), 1);
        x.receive(Seeds.of(7, 0, 2), 1);
        x.receive(Seeds.of(7, 0, 2), 2);
        // Drops 1 and 2 are in the queue when word 1 becomes known, which they do not have; drop 2
        // becomes open by none while it is in the queue, and is a clash when it goes out.
        CHECK.due("receive of word 0", x.receive(Seeds.of(7, 0), 0), 3);
        CHECK.due("clashes()", x.clashes(), 1);
    }

    private static void tellerAgrees() {
        DropCode x = new DropCode(7);
        x.receive(Seeds.of(7, 0), 7);
        CHECK.due("clashes() after a word told alone", x.clashes(), 0);
        x.receive(Seeds.of(7, 0, 1), 2);
        x.receive(Seeds.of(7, 0, 1, 2), -9);
        CHECK.due("clashes() after words told with others", x.clashes(), 0);
        CHECK.due("count()", x.count(), 3);
    }

    private static void eachIsCounted() {
        DropCode x = new DropCode(0);
        x.receive(0, 1);
        for (int n = 1; n < 60; n++) {
            x.receive(0, 2);
            CHECK.due("clashes() after " + n + " of the same", x.clashes(), n);
        }
    }

    private static void oldOnesAreNotRepeated() {
        DropCode x = new DropCode(7);
        x.receive(Seeds.of(7, 0), 1);
        x.receive(Seeds.of(7, 0), 2);
        CHECK.due("clashes()", x.clashes(), 1);
        x.receive(Seeds.of(7, 3), 1);
        x.receive(Seeds.of(7, 0, 1), 1);
        x.receive(Seeds.of(7, 0), 1);
        CHECK.due("clashes() after drops that agree", x.clashes(), 1);
    }

    private static void refusedDropIsNone() {
        DropCode x = Receivers.full();
        CHECK.due("one that would clash", x.receive(Seeds.of(7, 0), 2), DropCode.FULL);
        CHECK.due("clashes()", x.clashes(), 0);
    }

    private static void sinceForget() {
        DropCode x = Receivers.knowingThree();
        x.receive(Seeds.of(7, 0), 4);
        x.forget();
        CHECK.due("clashes()", x.clashes(), 0);
        x.receive(Seeds.of(7, 0), 4);
        CHECK.due("clashes() when the other word comes first", x.clashes(), 0);
        x.receive(Seeds.of(7, 0), 5);
        CHECK.due("clashes() then", x.clashes(), 1);
    }
}
