/** Promise 14. */
public final class Promise14ForgetTest {
    private static final Check CHECK = new Check("promise 14");

    public static void main(String[] args) {
        CHECK.test("how many had come, none", Promise14ForgetTest::noneHadCome);
        CHECK.test("how many had come, some", Promise14ForgetTest::someHadCome);
        CHECK.test("how many had come, 60", Promise14ForgetTest::sixtyHadCome);
        CHECK.test("how many had come, a second time", Promise14ForgetTest::aSecondTime);
        CHECK.test("No drops came", Promise14ForgetTest::noDropsCame);
        CHECK.test("nothing is known", Promise14ForgetTest::nothingIsKnown);
        CHECK.test("there were no clashes", Promise14ForgetTest::thereWereNoClashes);
        CHECK.test("No drops came: old ones are not opened", Promise14ForgetTest::oldDropsHaveNoPart);
        CHECK.test("nothing is known: old words have no part", Promise14ForgetTest::oldWordsHaveNoPart);
        CHECK.test("No drops came: 60 may come", Promise14ForgetTest::sixtyMayCome);
        CHECK.test("the row stays", Promise14ForgetTest::rowStays);
        CHECK.end();
    }

    private static void noneHadCome() {
        DropCode x = new DropCode(7);
        CHECK.due("forget()", x.forget(), 0);
        CHECK.due("drops()", x.drops(), 0);
        CHECK.due("receive of word 0", x.receive(Seeds.of(7, 0), 1), 1);
    }

    private static void someHadCome() {
        DropCode x = Receivers.knowingThree();
        x.receive(Seeds.of(7, 0), 4);
        x.receive(Seeds.of(7, 6, 7), 4);
        CHECK.due("forget()", x.forget(), 5);
    }

    private static void sixtyHadCome() {
        DropCode x = Receivers.full();
        x.receive(0, 0);
        CHECK.due("forget()", x.forget(), 60);
    }

    private static void aSecondTime() {
        DropCode x = Receivers.knowingThree();
        CHECK.due("forget()", x.forget(), 3);
        CHECK.due("forget() again", x.forget(), 0);
        x.receive(0, 0);
        CHECK.due("forget() after one more", x.forget(), 1);
    }

    private static void noDropsCame() {
        DropCode x = Receivers.full();
        x.forget();
        CHECK.due("drops()", x.drops(), 0);
        for (int n = 0; n < 60; n++) {
            CHECK.due("open(" + n + ")", x.open(n), DropCode.BAD);
        }
    }

    private static void nothingIsKnown() {
        for (int k = 0; k <= 31; k++) {
            DropCode x = Receivers.knowingAll(k);
            x.forget();
            CHECK.due("count() with k " + k, x.count(), 0);
            CHECK.due("order(0) with k " + k, x.order(0), DropCode.BAD);
            for (int i = 0; i <= k; i++) {
                CHECK.due("known(" + i + ") with k " + k, x.known(i), 0);
                CHECK.due("word(" + i + ") with k " + k, x.word(i), 0);
            }
        }
    }

    private static void thereWereNoClashes() {
        DropCode x = Receivers.knowingThree();
        x.receive(Seeds.of(7, 0), 4);
        CHECK.due("clashes() before", x.clashes(), 1);
        x.forget();
        CHECK.due("clashes()", x.clashes(), 0);
    }

    private static void oldDropsHaveNoPart() {
        DropCode x = new DropCode(7);
        x.receive(Seeds.of(7, 6, 7), 4);
        x.receive(Seeds.of(7, 5, 6), 4);
        x.forget();
        CHECK.due("receive of word 6", x.receive(Seeds.of(7, 6), 1), 1);
        CHECK.due("known(7)", x.known(7), 0);
        CHECK.due("known(5)", x.known(5), 0);
    }

    private static void oldWordsHaveNoPart() {
        DropCode x = Receivers.knowingThree();
        x.forget();
        CHECK.due("receive of words 0 and 1", x.receive(Seeds.of(7, 0, 1), 1), 0);
        CHECK.due("open(0)", x.open(0), 2);
        CHECK.due("receive of word 1", x.receive(Seeds.of(7, 1), 2), 2);
        CHECK.due("word(0)", x.word(0), 3);
        CHECK.due("word(1)", x.word(1), 2);
        CHECK.due("order(0)", x.order(0), 1);
        CHECK.due("order(1)", x.order(1), 0);
        CHECK.due("clashes()", x.clashes(), 0);
    }

    private static void sixtyMayCome() {
        DropCode x = Receivers.full();
        x.forget();
        for (int n = 0; n < 60; n++) {
            CHECK.due("drop " + n, x.receive(Seeds.of(7, 3, 4), 0), 0);
        }
        CHECK.due("the 61st", x.receive(Seeds.of(7, 3, 4), 0), DropCode.FULL);
        CHECK.due("forget()", x.forget(), 60);
    }

    private static void rowStays() {
        DropCode x = new DropCode(7);
        x.put(0, 12);
        x.put(4, 3);
        x.receive(0, 1);
        x.forget();
        CHECK.due("drop(0), of words 0 and 4", x.drop(0), 15);
        CHECK.due("put(8, 1)", x.put(8, 1), DropCode.BAD);
        CHECK.due("put(7, 1)", x.put(7, 1), 1);
    }
}
