/** Promise 4, with what "Terms" says of drawing and of the degree. */
public final class Promise04DegreeTest {
    private static final Check CHECK = new Check("promise 4");

    // Written out by hand: 65536 / 8, and then 65536 / (j (j - 1)) more, with each rest left off.
    private static final int[] BOUNDS_OF_8 = {8192, 40960, 51882, 57343, 60619, 62803, 64363, 65533};

    public static void main(String[] args) {
        CHECK.test("How many words the set of a seed has", Promise04DegreeTest::asManyAsTheSetHas);
        CHECK.test("the least d, from 1", Promise04DegreeTest::isOneWhen0IsDrawn);
        CHECK.test("from 1 to K, when K is 1", Promise04DegreeTest::isOneInARowOfOne);
        CHECK.test("r is less than 65536 / K", Promise04DegreeTest::firstBoundOfEachSize);
        CHECK.test("for each j from 2 to d, together", Promise04DegreeTest::boundsOfEight);
        CHECK.test("for each j from 2 to d, together, for each K", Promise04DegreeTest::boundsOfEachSize);
        CHECK.test("(divisions leave the rest off)", Promise04DegreeTest::restsAreLeftOff);
        CHECK.test("K when there is none", Promise04DegreeTest::kWhenThereIsNone);
        CHECK.test("s becomes s 1664525 + 1013904223 (32 bits)", Promise04DegreeTest::statesWrapAround);
        CHECK.test("s >>> 16 is drawn, from 32768 on", Promise04DegreeTest::drawnIsNeverBelow0);
        CHECK.test("s >>> 16 is drawn, without the low bits", Promise04DegreeTest::lowBitsHaveNoPart);
        CHECK.test("A SEED is an int, at its ends", Promise04DegreeTest::seedsAtTheEnds);
        CHECK.test("THE SET of a seed, whatever came", Promise04DegreeTest::doesNotFollowTheState);
        CHECK.end();
    }

    private static int degree(int k, int drawn) {
        return new DropCode(k).degree(Seeds.drawing(drawn));
    }

    private static void asManyAsTheSetHas() {
        for (int k = 0; k <= 31; k++) {
            DropCode x = new DropCode(k);
            Model model = new Model(k);
            for (int n = 0; n < 250; n++) {
                int seed = n * 17179869 + Integer.MIN_VALUE;
                int degree = x.degree(seed);
                CHECK.due("degree(" + seed + ") with k " + k, degree, model.degree(seed));
                CHECK.due("words of set(" + seed + ") with k " + k, Integer.bitCount(x.set(seed)), degree);
            }
        }
    }

    private static void isOneWhen0IsDrawn() {
        for (int k = 0; k <= 31; k++) {
            CHECK.due("degree when 0 is drawn, k " + k, degree(k, 0), 1);
        }
    }

    private static void isOneInARowOfOne() {
        for (int drawn : new int[] {0, 1, 32767, 32768, 65534, 65535}) {
            CHECK.due("degree when " + drawn + " is drawn, k 0", degree(0, drawn), 1);
        }
    }

    private static void firstBoundOfEachSize() {
        for (int k = 1; k <= 31; k++) {
            int bound = 65536 / (k + 1);
            CHECK.due("degree just under the first bound, k " + k, degree(k, bound - 1), 1);
            CHECK.due("degree at the first bound, k " + k, degree(k, bound), 2);
        }
    }

    private static void boundsOfEight() {
        for (int d = 1; d <= 8; d++) {
            int bound = BOUNDS_OF_8[d - 1];
            CHECK.due("degree when " + (bound - 1) + " is drawn", degree(7, bound - 1), d);
            CHECK.due("degree when " + bound + " is drawn", degree(7, bound), Math.min(d + 1, 8));
        }
    }

    private static void boundsOfEachSize() {
        for (int k = 0; k <= 31; k++) {
            int bound = 65536 / (k + 1);
            for (int d = 2; d <= k + 1; d++) {
                bound += 65536 / (d * (d - 1));
                CHECK.due("degree under bound " + d + ", k " + k, degree(k, bound - 1), d);
                CHECK.due("degree at bound " + d + ", k " + k, degree(k, bound & 65535), dueAt(bound, d, k));
            }
        }
    }

    // The last bound may be 65536, which is never drawn: then the number in its place is 0.
    private static int dueAt(int bound, int d, int k) {
        return bound == 65536 ? 1 : Math.min(d + 1, k + 1);
    }

    private static void restsAreLeftOff() {
        // 65536 / 3 leaves 1, so 21845 is at the bound and not under it.
        CHECK.due("degree when 21844 is drawn, k 2", degree(2, 21844), 1);
        CHECK.due("degree when 21845 is drawn, k 2", degree(2, 21845), 2);
        CHECK.due("degree when 54612 is drawn, k 2", degree(2, 54612), 2);
        CHECK.due("degree when 54613 is drawn, k 2", degree(2, 54613), 3);
        // 65536 / 6 and 65536 / 12 leave 4 and 4: their sum would be one more if the rests were kept.
        CHECK.due("degree when 57342 is drawn, k 7", degree(7, 57342), 4);
        CHECK.due("degree when 57343 is drawn, k 7", degree(7, 57343), 5);
        CHECK.due("degree when 65456 is drawn, k 31", degree(31, 65456), 31);
        CHECK.due("degree when 65457 is drawn, k 31", degree(31, 65457), 32);
    }

    private static void kWhenThereIsNone() {
        // The sums of 3, 8 and 32 words end at 65535, 65533 and 65523.
        CHECK.due("degree when 65535 is drawn, k 2", degree(2, 65535), 3);
        CHECK.due("degree when 65533 is drawn, k 7", degree(7, 65533), 8);
        CHECK.due("degree when 65523 is drawn, k 31", degree(31, 65523), 32);
        for (int k = 0; k <= 31; k++) {
            CHECK.due("degree when 65535 is drawn, k " + k, degree(k, 65535), k + 1);
        }
    }

    private static void statesWrapAround() {
        // 65536 1664525 goes over 32 bits: what is left of it is 26125 65536 and 15470 was drawn with 0.
        DropCode x = new DropCode(31);
        CHECK.due("degree(0), 15470 is drawn", x.degree(0), 2);
        CHECK.due("degree(65536), 41595 is drawn", x.degree(65536), 3);
        CHECK.due("degree(131072), 2184 is drawn", x.degree(131072), 2);
        CHECK.due("degree(3 << 28), 44142 is drawn", x.degree(3 << 28), 3);
        CHECK.due("degree(-1 << 28), 27758 is drawn", x.degree(-1 << 28), 2);
    }

    private static void drawnIsNeverBelow0() {
        CHECK.due("degree when 32767 is drawn, k 1", degree(1, 32767), 1);
        CHECK.due("degree when 32768 is drawn, k 1", degree(1, 32768), 2);
        CHECK.due("degree when 65535 is drawn, k 1", degree(1, 65535), 2);
    }

    private static void lowBitsHaveNoPart() {
        DropCode x = new DropCode(7);
        CHECK.due("degree when 8191 and low ones are drawn", x.degree(Seeds.before(8191 << 16 | 65535)), 1);
        CHECK.due("degree when 8192 and low zeros are drawn", x.degree(Seeds.before(8192 << 16)), 2);
        CHECK.due("degree when 40959 and low ones are drawn", x.degree(Seeds.before(40959 << 16 | 65535)), 2);
        CHECK.due("degree when 40960 and low zeros are drawn", x.degree(Seeds.before(40960 << 16)), 3);
    }

    private static void seedsAtTheEnds() {
        DropCode x = new DropCode(31);
        CHECK.due("degree(0)", x.degree(0), 2);
        CHECK.due("degree(-1)", x.degree(-1), 2);
        CHECK.due("degree(MAX)", x.degree(Integer.MAX_VALUE), 4);
        CHECK.due("degree(MIN)", x.degree(Integer.MIN_VALUE), 4);
    }

    private static void doesNotFollowTheState() {
        DropCode x = Receivers.full();
        x.put(0, 9);
        CHECK.due("degree(0) when full", x.degree(0), 2);
        CHECK.due("degree(0) again", x.degree(0), 2);
        x.forget();
        CHECK.due("degree(0) after forget", x.degree(0), 2);
    }
}
