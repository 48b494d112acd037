import java.util.Random;

/** Long runs of mixed calls, up to the 512 that an object is used for, against the Model. */
public final class ModelRunsTest {
    private static final int RUNS_PER_SIZE = 40;
    private static final int CALLS = 512;

    private final Check check;
    private final Random random;
    private final DropCode code;
    private final Model model;
    private final String run;
    private int calls = 0;

    private ModelRunsTest(Check check, int k, int number) {
        this.check = check;
        this.random = new Random(31L * k + 1_000_003L * number);
        this.code = new DropCode(k);
        this.model = new Model(k);
        this.run = "run " + number + " with k " + k + ", ";
    }

    public static void main(String[] args) {
        Check check = new Check("ModelRunsTest");
        for (int k = 0; k < 32; k++) {
            for (int number = 0; number < RUNS_PER_SIZE && check.allAsDue(); number++) {
                new ModelRunsTest(check, k, number).go(number % 4);
            }
        }
        check.end();
    }

    private void go(int lieOneIn) {
        for (int i = 0; i < model.size(); i++) {
            put(i, random.nextInt());
        }
        // A receive is followed by two more calls.
        while (calls + 3 <= CALLS && check.allAsDue()) {
            if (random.nextInt(4) == 0) {
                receive(random.nextInt(), lieOneIn);
            } else {
                ask(random.nextInt(13));
            }
        }
    }

    private void put(int i, int v) {
        due("put(" + i + ", " + v + ")", code.put(i, v), model.put(i, v));
    }

    // With lieOneIn 0 every word is the row's, as long as no later put changes the row.
    private void receive(int seed, int lieOneIn) {
        boolean lie = lieOneIn > 0 && random.nextInt(lieOneIn) == 0;
        int word = lie ? random.nextInt(4) : model.drop(seed);
        due("receive(" + seed + ", " + word + ")", code.receive(seed, word), model.receive(seed, word));
        due("count()", code.count(), model.count());
        due("clashes()", code.clashes(), model.clashes());
    }

    private void ask(int kind) {
        int seed = random.nextInt();
        int i = random.nextInt(model.size() + 4) - 2;
        int n = random.nextInt(66) - 2;
        switch (kind) {
            case 0 -> put(i, random.nextInt());
            case 1 -> due("drop(" + seed + ")", code.drop(seed), model.drop(seed));
            case 2 -> due("degree(" + seed + ")", code.degree(seed), model.degree(seed));
            case 3 -> due("set(" + seed + ")", code.set(seed), model.set(seed));
            case 4 -> due("known(" + i + ")", code.known(i), model.known(i));
            case 5 -> due("word(" + i + ")", code.word(i), model.word(i));
            case 6 -> due("order(" + i + ")", code.order(i), model.order(i));
            case 7 -> due("open(" + n + ")", code.open(n), model.open(n));
            case 8 -> due("drops()", code.drops(), model.drops());
            case 9 -> due("count()", code.count(), model.count());
            case 10 -> due("clashes()", code.clashes(), model.clashes());
            case 11 -> due("known(" + seed + ")", code.known(seed), model.known(seed));
            default -> forgetSeldom();
        }
    }

    private void forgetSeldom() {
        if (random.nextInt(12) == 0) {
            due("forget()", code.forget(), model.forget());
        } else {
            due("drops()", code.drops(), model.drops());
        }
    }

    private void due(String call, int got, int want) {
        calls++;
        check.due(run + call, got, want);
    }
}
