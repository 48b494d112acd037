/** Promise 7. */
public final class Promise07KnownTest {
    private static final Check CHECK = new Check("promise 7");

    public static void main(String[] args) {
        CHECK.test("Whether word i is known: 1 or 0", Promise07KnownTest::oneOrZero);
        CHECK.test("1 when it is known as 0", Promise07KnownTest::knownAs0);
        CHECK.test("1 or 0, at the ends of the row", Promise07KnownTest::firstAndLastWord);
        CHECK.test("BAD, below the row", Promise07KnownTest::badBelowTheRow);
        CHECK.test("BAD, beyond the row", Promise07KnownTest::badBeyondTheRow);
        CHECK.test("BAD, when all words are known", Promise07KnownTest::badWhenAllAreKnown);
        CHECK.end();
    }

    private static void oneOrZero() {
        DropCode x = Receivers.knowingThree();
        for (int i = 0; i < 8; i++) {
            CHECK.due("known(" + i + ")", x.known(i), i < 3 ? 1 : 0);
        }
        x.receive(Seeds.of(7, 4, 5), 0);
        CHECK.due("known(4), in a drop that is open by two", x.known(4), 0);
    }

    private static void knownAs0() {
        DropCode x = new DropCode(7);
        CHECK.due("known(3) before", x.known(3), 0);
        x.receive(Seeds.of(7, 3), 0);
        CHECK.due("known(3)", x.known(3), 1);
    }

    private static void firstAndLastWord() {
        for (int k = 1; k <= 31; k++) {
            DropCode x = new DropCode(k);
            x.receive(Seeds.of(k, k), 9);
            CHECK.due("known(0) with k " + k, x.known(0), 0);
            CHECK.due("known(" + k + ") with k " + k, x.known(k), 1);
            x.forget();
            x.receive(Seeds.of(k, 0), 9);
            CHECK.due("known(0) then, with k " + k, x.known(0), 1);
            CHECK.due("known(" + k + ") then, with k " + k, x.known(k), 0);
        }
    }

    private static void badBelowTheRow() {
        for (int k = 0; k <= 31; k++) {
            DropCode x = new DropCode(k);
            CHECK.due("known(-1) with k " + k, x.known(-1), DropCode.BAD);
            CHECK.due("known(MIN) with k " + k, x.known(Integer.MIN_VALUE), DropCode.BAD);
        }
    }

    private static void badBeyondTheRow() {
        for (int k = 0; k <= 31; k++) {
            DropCode x = new DropCode(k);
            CHECK.due("known(" + (k + 1) + ") with k " + k, x.known(k + 1), DropCode.BAD);
            CHECK.due("known(32) with k " + k, x.known(32), DropCode.BAD);
            CHECK.due("known(MAX) with k " + k, x.known(Integer.MAX_VALUE), DropCode.BAD);
        }
    }

    private static void badWhenAllAreKnown() {
        for (int k = 0; k <= 31; k++) {
            DropCode x = Receivers.knowingAll(k);
            CHECK.due("known(" + k + ") with k " + k, x.known(k), 1);
            CHECK.due("known(" + (k + 1) + ") with k " + k, x.known(k + 1), DropCode.BAD);
            for (int i : Check.NO_INDEX) {
                CHECK.due("known(" + i + ") with k " + k, x.known(i), DropCode.BAD);
            }
        }
    }
}
