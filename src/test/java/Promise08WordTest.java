/** Promise 8. */
public final class Promise08WordTest {
    private static final Check CHECK = new Check("promise 8");

    public static void main(String[] args) {
        CHECK.test("Word i as it is known", Promise08WordTest::asItIsKnown);
        CHECK.test("as it is known, first and for good", Promise08WordTest::staysAsItBecameKnown);
        CHECK.test("as it is known, at the ends of the ints", Promise08WordTest::anyInt);
        CHECK.test("0 when it is not", Promise08WordTest::zeroWhenItIsNot);
        CHECK.test("0 when it is not, though the row has it", Promise08WordTest::zeroThoughTheRowHasIt);
        CHECK.test("0 when it is not any more", Promise08WordTest::zeroAfterForget);
        CHECK.test("0 when it is not, outside the row (no BAD is named)", Promise08WordTest::zeroOutsideTheRow);
        CHECK.end();
    }

    private static void asItIsKnown() {
        DropCode x = Receivers.knowingThree();
        int[] words = {5, 6, 9};
        for (int i = 0; i < 3; i++) {
            CHECK.due("word(" + i + ")", x.word(i), words[i]);
        }
        for (int k = 0; k <= 31; k++) {
            DropCode all = Receivers.knowingAll(k);
            for (int i = 0; i <= k; i++) {
                CHECK.due("word(" + i + ") with k " + k, all.word(i), i + 1);
            }
        }
    }

    private static void staysAsItBecameKnown() {
        DropCode x = Receivers.knowingThree();
        x.receive(Seeds.of(7, 0), 4);
        CHECK.due("word(0) after another word for it", x.word(0), 5);
        x.put(0, 3);
        CHECK.due("word(0) after a put", x.word(0), 5);
    }

    private static void anyInt() {
        DropCode x = new DropCode(31);
        x.receive(Seeds.of(31, 0), -1);
        x.receive(Seeds.of(31, 30), Integer.MAX_VALUE);
        x.receive(Seeds.of(31, 31), Integer.MIN_VALUE);
        CHECK.due("word(0)", x.word(0), -1);
        CHECK.due("word(30)", x.word(30), Integer.MAX_VALUE);
        CHECK.due("word(31)", x.word(31), Integer.MIN_VALUE);
    }

    private static void zeroWhenItIsNot() {
        DropCode x = Receivers.knowingThree();
        x.receive(Seeds.of(7, 6, 7), 4);
        for (int i = 3; i < 8; i++) {
            CHECK.due("word(" + i + ")", x.word(i), 0);
        }
    }

    private static void zeroThoughTheRowHasIt() {
        DropCode x = new DropCode(7);
        x.put(3, 9);
        CHECK.due("word(3) after put(3, 9)", x.word(3), 0);
    }

    private static void zeroAfterForget() {
        DropCode x = Receivers.knowingAll(31);
        x.forget();
        for (int i = 0; i < 32; i++) {
            CHECK.due("word(" + i + ")", x.word(i), 0);
        }
        x.receive(Seeds.of(31, 4), 6);
        CHECK.due("word(3) when 4 is known", x.word(3), 0);
        CHECK.due("word(4) when 4 is known", x.word(4), 6);
    }

    private static void zeroOutsideTheRow() {
        for (int k = 0; k <= 31; k++) {
            DropCode x = Receivers.knowingAll(k);
            CHECK.due("word(-1) with k " + k, x.word(-1), 0);
            CHECK.due("word(" + (k + 1) + ") with k " + k, x.word(k + 1), 0);
            CHECK.due("word(32) with k " + k, x.word(32), 0);
            for (int i : Check.NO_INDEX) {
                CHECK.due("word(" + i + ") with k " + k, x.word(i), 0);
            }
        }
    }
}
