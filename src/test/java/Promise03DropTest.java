/** Promise 3, with what "Terms" says of the drop of a seed. */
public final class Promise03DropTest {
    private static final Check CHECK = new Check("promise 3");

    public static void main(String[] args) {
        CHECK.test("THE DROP is the xor of the words that the set has, one", Promise03DropTest::ofOneWord);
        CHECK.test("THE DROP is the xor of the words that the set has, some", Promise03DropTest::ofSomeWords);
        CHECK.test("THE DROP is the xor of the words that the set has, all", Promise03DropTest::ofAllWords);
        CHECK.test("the xor, of equal words", Promise03DropTest::equalWordsCancel);
        CHECK.test("the xor, over all 32 bits", Promise03DropTest::wordsBelow0);
        CHECK.test("A SEED is an int, at its ends", Promise03DropTest::seedsAtTheEnds);
        CHECK.test("the row's words, not the known ones", Promise03DropTest::knownWordsHaveNoPart);
        CHECK.test("The drop of a seed does not come by being told", Promise03DropTest::changesNothing);
        CHECK.end();
    }

    private static DropCode rowOfPowers(int k) {
        DropCode x = new DropCode(k);
        for (int i = 0; i <= k; i++) {
            x.put(i, 1 << i);
        }
        return x;
    }

    private static void ofOneWord() {
        for (int k = 0; k <= 31; k++) {
            DropCode x = rowOfPowers(k);
            CHECK.due("drop of the first word, k " + k, x.drop(Seeds.of(k, 0)), 1);
            CHECK.due("drop of the last word, k " + k, x.drop(Seeds.of(k, k)), 1 << k);
        }
    }

    private static void ofSomeWords() {
        DropCode x = rowOfPowers(7);
        CHECK.due("drop(0), of words 0 and 4", x.drop(0), 17);
        CHECK.due("drop of words 1, 2 and 5", x.drop(Seeds.of(7, 1, 2, 5)), 38);
        CHECK.due("drop of words 0 and 7", x.drop(Seeds.of(7, 0, 7)), 129);
    }

    private static void ofAllWords() {
        for (int k = 0; k <= 31; k++) {
            int all = k == 31 ? -1 : (1 << k + 1) - 1;
            CHECK.due("drop of the whole row, k " + k, rowOfPowers(k).drop(Seeds.drawing(65535)), all);
        }
    }

    private static void equalWordsCancel() {
        DropCode x = new DropCode(7);
        x.put(0, 3);
        x.put(4, 3);
        CHECK.due("drop(0), of words 3 and 3", x.drop(0), 0);
        x.put(4, 2);
        CHECK.due("drop(0), of words 3 and 2", x.drop(0), 1);
    }

    private static void wordsBelow0() {
        DropCode x = new DropCode(7);
        x.put(0, 3);
        x.put(4, -1);
        CHECK.due("drop(0), of words 3 and -1", x.drop(0), -4);
        x.put(0, Integer.MIN_VALUE);
        CHECK.due("drop(0), of words MIN and -1", x.drop(0), Integer.MAX_VALUE);
        x.put(4, Integer.MAX_VALUE);
        CHECK.due("drop(0), of words MIN and MAX", x.drop(0), -1);
    }

    private static void seedsAtTheEnds() {
        DropCode x = rowOfPowers(31);
        CHECK.due("drop(0)", x.drop(0), 69632);
        CHECK.due("drop(-1)", x.drop(-1), 8388616);
        CHECK.due("drop(MAX)", x.drop(Integer.MAX_VALUE), -2136997880);
        CHECK.due("drop(MIN)", x.drop(Integer.MIN_VALUE), 33886208);
    }

    private static void knownWordsHaveNoPart() {
        DropCode x = Receivers.knowingThree();
        CHECK.due("drop of word 0, known as 5", x.drop(Seeds.of(7, 0)), 0);
        x.put(0, 8);
        CHECK.due("drop of word 0, put as 8", x.drop(Seeds.of(7, 0)), 8);
    }

    private static void changesNothing() {
        DropCode x = rowOfPowers(7);
        CHECK.due("drop of word 0", x.drop(Seeds.of(7, 0)), 1);
        CHECK.due("drop of word 0 again", x.drop(Seeds.of(7, 0)), 1);
        CHECK.due("drops()", x.drops(), 0);
        CHECK.due("count()", x.count(), 0);
        CHECK.due("known(0)", x.known(0), 0);
    }
}
