/** Promise 2. */
public final class Promise02PutTest {
    private static final Check CHECK = new Check("promise 2");

    public static void main(String[] args) {
        CHECK.test("Word i of the row becomes v: 1", Promise02PutTest::eachWordBecomesItsOwn);
        CHECK.test("becomes v, for any int", Promise02PutTest::becomesAnyInt);
        CHECK.test("becomes v, when it was another", Promise02PutTest::becomesAnother);
        CHECK.test("BAD, below the row", Promise02PutTest::badBelowTheRow);
        CHECK.test("BAD, beyond the row", Promise02PutTest::badBeyondTheRow);
        CHECK.test("BAD, and the row stays", Promise02PutTest::badPutChangesNothing);
        CHECK.test("of the row, not of what is known", Promise02PutTest::knownWordsStay);
        CHECK.end();
    }

    private static void eachWordBecomesItsOwn() {
        for (int k = 0; k <= 31; k++) {
            DropCode x = new DropCode(k);
            for (int i = 0; i <= k; i++) {
                CHECK.due("put(" + i + ", " + (100 + i) + ") with k " + k, x.put(i, 100 + i), 1);
            }
            for (int i = 0; i <= k; i++) {
                CHECK.due("drop of word " + i + " with k " + k, x.drop(Seeds.of(k, i)), 100 + i);
            }
        }
    }

    private static void becomesAnyInt() {
        DropCode x = new DropCode(7);
        for (int v : new int[] {1, -1, DropCode.FULL, Integer.MIN_VALUE, Integer.MAX_VALUE, 0}) {
            CHECK.due("put(3, " + v + ")", x.put(3, v), 1);
            CHECK.due("drop of word 3", x.drop(Seeds.of(7, 3)), v);
        }
    }

    private static void becomesAnother() {
        DropCode x = new DropCode(7);
        x.put(3, 6);
        CHECK.due("put(3, 5) after put(3, 6)", x.put(3, 5), 1);
        CHECK.due("drop of word 3", x.drop(Seeds.of(7, 3)), 5);
        CHECK.due("put(3, 0)", x.put(3, 0), 1);
        CHECK.due("drop of word 3", x.drop(Seeds.of(7, 3)), 0);
    }

    private static void badBelowTheRow() {
        for (int k = 0; k <= 31; k++) {
            DropCode x = new DropCode(k);
            CHECK.due("put(-1, 1) with k " + k, x.put(-1, 1), DropCode.BAD);
            CHECK.due("put(MIN, 1) with k " + k, x.put(Integer.MIN_VALUE, 1), DropCode.BAD);
        }
    }

    private static void badBeyondTheRow() {
        for (int k = 0; k <= 31; k++) {
            DropCode x = new DropCode(k);
            CHECK.due("put(" + (k + 1) + ", 1) with k " + k, x.put(k + 1, 1), DropCode.BAD);
            CHECK.due("put(32, 1) with k " + k, x.put(32, 1), DropCode.BAD);
            CHECK.due("put(MAX, 1) with k " + k, x.put(Integer.MAX_VALUE, 1), DropCode.BAD);
        }
    }

    private static void badPutChangesNothing() {
        DropCode x = new DropCode(7);
        x.put(3, 9);
        CHECK.due("put(8, 1)", x.put(8, 1), DropCode.BAD);
        for (int i : Check.NO_INDEX) {
            CHECK.due("put(" + i + ", 1)", x.put(i, 1), DropCode.BAD);
        }
        for (int i = 0; i < 8; i++) {
            CHECK.due("drop of word " + i, x.drop(Seeds.of(7, i)), i == 3 ? 9 : 0);
        }
    }

    private static void knownWordsStay() {
        DropCode x = Receivers.knowingThree();
        x.put(0, 77);
        x.put(3, 78);
        CHECK.due("word(0) after put(0, 77)", x.word(0), 5);
        CHECK.due("known(3) after put(3, 78)", x.known(3), 0);
        CHECK.due("word(3) after put(3, 78)", x.word(3), 0);
        CHECK.due("count()", x.count(), 3);
        CHECK.due("clashes()", x.clashes(), 0);
    }
}
