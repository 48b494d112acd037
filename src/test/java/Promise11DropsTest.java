/** Promise 11. */
public final class Promise11DropsTest {
    private static final Check CHECK = new Check("promise 11");

    public static void main(String[] args) {
        CHECK.test("How many drops came, none", Promise11DropsTest::none);
        CHECK.test("How many drops came, up to 60", Promise11DropsTest::upTo60);
        CHECK.test("came, refused ones not", Promise11DropsTest::refusedOnesDidNotCome);
        CHECK.test("came, those that wait, tell, repeat and clash", Promise11DropsTest::allKindsCame);
        CHECK.test("came, since the last forget", Promise11DropsTest::sinceForget);
        CHECK.end();
    }

    private static void none() {
        DropCode x = new DropCode(7);
        CHECK.due("drops()", x.drops(), 0);
        x.put(0, 1);
        x.drop(0);
        CHECK.due("drops() after put and drop", x.drops(), 0);
    }

    private static void upTo60() {
        DropCode x = new DropCode(0);
        for (int n = 0; n < 60; n++) {
            CHECK.due("drops() after " + n, x.drops(), n);
            x.receive(n, n % 2);
        }
        CHECK.due("drops() after 60", x.drops(), 60);
    }

    private static void refusedOnesDidNotCome() {
        DropCode x = Receivers.full();
        for (int n = 0; n < 5; n++) {
            x.receive(n, n);
            CHECK.due("drops() after FULL", x.drops(), 60);
        }
    }

    private static void allKindsCame() {
        DropCode x = new DropCode(7);
        x.receive(Seeds.of(7, 0, 1), 3);
        CHECK.due("drops() after one that waits", x.drops(), 1);
        x.receive(Seeds.of(7, 0), 1);
        CHECK.due("drops() after one that tells", x.drops(), 2);
        x.receive(Seeds.of(7, 0), 1);
        CHECK.due("drops() after one that repeats", x.drops(), 3);
        x.receive(Seeds.of(7, 0), 2);
        CHECK.due("drops() after one that clashes", x.drops(), 4);
    }

    private static void sinceForget() {
        DropCode x = Receivers.knowingThree();
        x.forget();
        CHECK.due("drops()", x.drops(), 0);
        x.receive(0, 0);
        CHECK.due("drops() then", x.drops(), 1);
    }
}
