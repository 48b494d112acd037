/** What "What it is" says of the calls of one object, and that none of them ever throws. */
public final class CallsOfOneObjectTest {
    private static final Check CHECK = new Check("what it is");
    private static final int KINDS = 13;

    public static void main(String[] args) {
        CHECK.test("used for at most 512 calls: the 512th answers", CallsOfOneObjectTest::the512thAnswers);
        CHECK.test("what later calls answer is free: they end", CallsOfOneObjectTest::laterCallsEnd);
        CHECK.test("no call throws, at the ends of the ints", CallsOfOneObjectTest::noneThrowsAtTheEnds);
        CHECK.end();
    }

    private static void the512thAnswers() {
        for (int k : new int[] {0, 7, 31}) {
            for (int last = 0; last < KINDS; last++) {
                DropCode x = new DropCode(k);
                Model model = new Model(k);
                for (int n = 1; n <= 512; n++) {
                    call(x, model, n == 512 ? last : n % KINDS, n * 7919);
                }
            }
        }
    }

    private static void call(DropCode x, Model model, int kind, int number) {
        int i = Math.floorMod(number, 40) - 2;
        int word = number % 5 == 0 ? number : model.drop(number);
        switch (kind) {
            case 0 -> CHECK.due("put", x.put(i, number), model.put(i, number));
            case 1 -> CHECK.due("drop", x.drop(number), model.drop(number));
            case 2 -> CHECK.due("degree", x.degree(number), model.degree(number));
            case 3 -> CHECK.due("set", x.set(number), model.set(number));
            case 4 -> CHECK.due("receive", x.receive(number, word), model.receive(number, word));
            case 5 -> CHECK.due("known", x.known(i), model.known(i));
            case 6 -> CHECK.due("word", x.word(i), model.word(i));
            case 7 -> CHECK.due("order", x.order(i), model.order(i));
            case 8 -> CHECK.due("open", x.open(i), model.open(i));
            case 9 -> CHECK.due("drops", x.drops(), model.drops());
            case 10 -> CHECK.due("count", x.count(), model.count());
            case 11 -> CHECK.due("clashes", x.clashes(), model.clashes());
            default -> CHECK.due("forget", x.forget(), model.forget());
        }
    }

    // The answers are free, so they are not looked at: a call that throws or does not end is a fault still.
    private static void laterCallsEnd() {
        DropCode x = new DropCode(31);
        for (int n = 0; n < 20_000; n++) {
            int number = n * 104729;
            x.put(number % 40, number);
            x.receive(number, x.drop(number));
            x.degree(number);
            x.set(number);
            x.known(number % 40);
            x.word(number % 40);
            x.order(number % 40);
            x.open(number % 70);
            if (x.drops() + x.count() + x.clashes() > 100) {
                x.forget();
            }
        }
    }

    private static void noneThrowsAtTheEnds() {
        int[] ends = {Integer.MIN_VALUE, Integer.MIN_VALUE + 1, -1, 0, 1, Integer.MAX_VALUE - 1, Integer.MAX_VALUE};
        for (int k : ends) {
            for (int a : ends) {
                DropCode x = new DropCode(k);
                for (int b : ends) {
                    x.put(a, b);
                    x.receive(a, b);
                    x.drop(a);
                    x.degree(a);
                    x.set(a);
                    x.known(a);
                    x.word(a);
                    x.order(a);
                    x.open(a);
                }
                CHECK.due("drops() with k " + k, x.drops(), ends.length);
                CHECK.due("forget() with k " + k, x.forget(), ends.length);
            }
        }
    }
}
