/** Promise 12. */
public final class Promise12CountTest {
    private static final Check CHECK = new Check("promise 12");

    public static void main(String[] args) {
        CHECK.test("How many words are known, none", Promise12CountTest::none);
        CHECK.test("How many words are known, some", Promise12CountTest::some);
        CHECK.test("How many words are known, all K", Promise12CountTest::all);
        CHECK.test("known, clashes and repeats add none", Promise12CountTest::clashesAddNone);
        CHECK.test("known, since the last forget", Promise12CountTest::sinceForget);
        CHECK.end();
    }

    private static void none() {
        DropCode x = new DropCode(7);
        CHECK.due("count()", x.count(), 0);
        x.put(0, 1);
        CHECK.due("count() after a put", x.count(), 0);
        x.receive(Seeds.of(7, 0, 1), 3);
        CHECK.due("count() with a drop that waits", x.count(), 0);
    }

    private static void some() {
        CHECK.due("count() of a chain", Receivers.knowingThree().count(), 3);
        DropCode x = new DropCode(31);
        x.receive(Seeds.of(31, 31), 0);
        CHECK.due("count() of word 31, known as 0", x.count(), 1);
    }

    private static void all() {
        for (int k = 0; k <= 31; k++) {
            DropCode x = Receivers.knowingAll(k);
            CHECK.due("count() with k " + k, x.count(), k + 1);
            x.receive(0, 0);
            CHECK.due("count() after one more, with k " + k, x.count(), k + 1);
        }
    }

    private static void clashesAddNone() {
        DropCode x = Receivers.knowingThree();
        x.receive(Seeds.of(7, 0), 99);
        CHECK.due("count() after a clash", x.count(), 3);
        x.receive(Seeds.of(7, 0), 5);
        CHECK.due("count() after a repeat", x.count(), 3);
    }

    private static void sinceForget() {
        DropCode x = Receivers.knowingThree();
        x.forget();
        CHECK.due("count()", x.count(), 0);
        x.receive(Seeds.of(7, 0), 5);
        CHECK.due("count() then", x.count(), 1);
    }
}
