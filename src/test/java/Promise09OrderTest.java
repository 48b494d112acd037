/** Promise 9. */
public final class Promise09OrderTest {
    private static final Check CHECK = new Check("promise 9");

    public static void main(String[] args) {
        CHECK.test("Which word became known k-th (from 0)", Promise09OrderTest::asTheyBecameKnown);
        CHECK.test("k-th, when one drop made several known", Promise09OrderTest::asTheQueueMadeThemKnown);
        CHECK.test("k-th, when all are known", Promise09OrderTest::allOfTheRow);
        CHECK.test("BAD when there is none such, none being known", Promise09OrderTest::badWhenNoneIsKnown);
        CHECK.test("BAD when there is none such, beyond the last", Promise09OrderTest::badBeyondTheLast);
        CHECK.test("BAD when there is none such, below 0", Promise09OrderTest::badBelow0);
        CHECK.test("BAD when there is none such any more", Promise09OrderTest::badAfterForget);
        CHECK.end();
    }

    private static void asTheyBecameKnown() {
        DropCode x = new DropCode(7);
        int[] words = {5, 0, 7, 2};
        for (int i : words) {
            x.receive(Seeds.of(7, i), i);
        }
        x.receive(Seeds.of(7, 7), 1);
        for (int k = 0; k < 4; k++) {
            CHECK.due("order(" + k + ")", x.order(k), words[k]);
        }
    }

    private static void asTheQueueMadeThemKnown() {
        DropCode x = new DropCode(7);
        x.receive(Seeds.of(7, 4, 6), 0);
        x.receive(Seeds.of(7, 4, 3), 0);
        x.receive(Seeds.of(7, 1, 6), 0);
        x.receive(Seeds.of(7, 4), 0);
        int[] words = {4, 6, 3, 1};
        for (int k = 0; k < 4; k++) {
            CHECK.due("order(" + k + ")", x.order(k), words[k]);
        }
    }

    private static void allOfTheRow() {
        for (int k = 0; k <= 31; k++) {
            DropCode x = new DropCode(k);
            for (int i = k; i >= 0; i--) {
                x.receive(Seeds.of(k, i), i);
            }
            for (int n = 0; n <= k; n++) {
                CHECK.due("order(" + n + ") with k " + k, x.order(n), k - n);
            }
            CHECK.due("order(" + (k + 1) + ") with k " + k, x.order(k + 1), DropCode.BAD);
        }
    }

    private static void badWhenNoneIsKnown() {
        DropCode x = new DropCode(7);
        CHECK.due("order(0)", x.order(0), DropCode.BAD);
        x.receive(Seeds.of(7, 0, 1), 3);
        CHECK.due("order(0) with a drop that waits", x.order(0), DropCode.BAD);
    }

    private static void badBeyondTheLast() {
        DropCode x = Receivers.knowingThree();
        CHECK.due("order(2)", x.order(2), 2);
        CHECK.due("order(3)", x.order(3), DropCode.BAD);
        CHECK.due("order(7)", x.order(7), DropCode.BAD);
        CHECK.due("order(8)", x.order(8), DropCode.BAD);
        CHECK.due("order(MAX)", x.order(Integer.MAX_VALUE), DropCode.BAD);
        x.receive(Seeds.of(7, 0), 6);
        CHECK.due("order(3) after a clash", x.order(3), DropCode.BAD);
    }

    private static void badBelow0() {
        DropCode x = Receivers.knowingAll(31);
        for (int k : Check.NO_INDEX) {
            CHECK.due("order(" + k + ")", x.order(k), DropCode.BAD);
        }
    }

    private static void badAfterForget() {
        DropCode x = Receivers.knowingThree();
        x.forget();
        CHECK.due("order(0)", x.order(0), DropCode.BAD);
        x.receive(Seeds.of(7, 6), 1);
        CHECK.due("order(0) then", x.order(0), 6);
        CHECK.due("order(1) then", x.order(1), DropCode.BAD);
    }
}
