/** Objects in a state that several tests start from. */
final class Receivers {
    private Receivers() {
    }

    /** Of 8 words, 0, 1 and 2 are known, as 5, 6 and 9, by three drops; the last one set off the others. */
    static DropCode knowingThree() {
        DropCode x = new DropCode(7);
        x.receive(Seeds.of(7, 0, 1), 5 ^ 6);
        x.receive(Seeds.of(7, 1, 2), 6 ^ 9);
        x.receive(Seeds.of(7, 0), 5);
        return x;
    }

    /** Of k + 1 words each word i is known, as i + 1, told one by one from the first. */
    static DropCode knowingAll(int k) {
        DropCode x = new DropCode(k);
        for (int i = 0; i <= k; i++) {
            x.receive(Seeds.of(k, i), i + 1);
        }
        return x;
    }

    /** 60 drops came; of 8 words, 0 and 1 are known, as 1 and 2, and there was no clash. */
    static DropCode full() {
        DropCode x = new DropCode(7);
        for (int n = 0; n < 59; n++) {
            x.receive(Seeds.of(7, 0, 1), 1 ^ 2);
        }
        x.receive(Seeds.of(7, 0), 1);
        return x;
    }
}
