/** Runs named tests, counts the answers that are not as due and tells each of them with its test's name. */
final class Check {
    /** Numbers that are no index of anything; some would fall on one if only their low bits were looked at. */
    static final int[] NO_INDEX = {-1, -2, -8, -32, -64, 64, 256, 1 << 16, Integer.MIN_VALUE, Integer.MAX_VALUE};

    private final String name;
    private String sentence = "";
    private int made = 0;
    private int wrong = 0;

    Check(String name) {
        this.name = name;
    }

    /** A test of one sentence of the document; a call that throws is a wrong answer too. */
    void test(String ofSentence, Runnable body) {
        sentence = ofSentence + ": ";
        try {
            body.run();
        } catch (RuntimeException | Error thrown) {
            tell("threw " + thrown);
        }
        sentence = "";
    }

    void due(String call, long got, long want) {
        made++;
        if (got != want) {
            tell(call + " answered " + got + ", due is " + want);
        }
    }

    private void tell(String what) {
        wrong++;
        System.out.println(name + ": " + sentence + what);
    }

    boolean allAsDue() {
        return wrong == 0;
    }

    void end() {
        System.out.println(name + ": " + made + " answers, " + wrong + " not as due");
        if (wrong != 0) {
            System.exit(1);
        }
    }
}
