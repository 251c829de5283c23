/** The sentences of '4 SIGNS' and promise 21 that name a boundary case, a test for each. */
public final class SignsEdgesTest {
    private static final int NONE = -1, OUTSIDE = -1002;
    private static final Due DUE = new Due("SignsEdgesTest");
    private static final Edges EDGES = new Edges(DUE);

    private static void steps(int a, int b, int want) {
        DUE.is("signs(" + a + ", " + b + ")", new SixNumbers().signs(a, b), want);
    }

    // ---- 'from a number a (1 .. 100)', 'from a to b (0 .. 5040)'

    private static void signsTakesItsBounds() {
        for (int b : new int[] {0, 1, 5040}) {
            EDGES.bounds("signs(.., " + b + ")", SixNumbers::new, (x, a) -> x.signs(a, b), 1, 100, OUTSIDE);
        }
        for (int a : new int[] {1, 2, 100}) {
            EDGES.bounds("signs(" + a + ", ..)", SixNumbers::new, (x, b) -> x.signs(a, b), 0, 5040, OUTSIDE);
        }
    }

    private static void fromANumberToItselfThereAreNoSteps() {
        for (int a = 1; a <= 100; a++) steps(a, a, 0);
    }

    // ---- 'NONE: there are none'

    private static void from1Only0And1() {
        SixNumbers x = new SixNumbers();
        DUE.is("signs(1, 0)", x.signs(1, 0), 1);
        DUE.is("signs(1, 1)", x.signs(1, 1), 0);
        for (int b : new int[] {2, 3, 6, 100, 5039, 5040}) DUE.is("signs(1, " + b + ")", x.signs(1, b), NONE);
    }

    /** Each of them becomes 5040, and that all below it. */
    private static void from2OnAll() {
        for (int a = 2; a <= 100; a++) {
            SixNumbers x = new SixNumbers();
            for (int b = 0; b <= 5040; b++) {
                if (b % 512 == 511) x = new SixNumbers();
                DUE.is("signs(" + a + ", " + b + ") is there", x.signs(a, b) >= 0 ? 1 : 0, 1);
            }
        }
    }

    // ---- '0 the root, cut down'

    private static void theRootIsCutDown() {
        int[][] one = {{3, 1}, {4, 2}, {8, 2}, {9, 3}, {15, 3}, {16, 4}, {24, 4}, {25, 5}, {48, 6}, {49, 7}, {80, 8}, {81, 9}, {99, 9}, {100, 10}};
        for (int[] row : one) steps(row[0], row[1], 1);
        // Not cut up, and not to the nearest: 8 2 3; 99 9 45 6 21 4 10.
        steps(8, 3, 2);
        steps(99, 10, 6);
        // The root of the greatest, 5040 by the product to 7, is 70; of 2485, the sum to 70, 49.
        steps(7, 70, 2);
        steps(70, 49, 2);
    }

    // ---- '1 the product of 1 to it (of 0: 1), if it is 7 at most'

    private static void theProductTo7AtMost() {
        int[] products = {1, 2, 6, 24, 120, 720, 5040};
        for (int a = 3; a <= 7; a++) steps(a, products[a - 1], 1);
        // 2 3 6: the sum of 2, the product of 3.
        steps(2, 6, 2);
        // From 8 to 7 by one less, and then the product.
        steps(8, 5040, 2);
        steps(7, 5040, 1);
        steps(7, 5039, 2);
    }

    // ---- '2 the sum of 1 to it, if it is 70 at most'

    private static void theSumTo70AtMost() {
        for (int a = 2; a <= 70; a++) steps(a, a * (a + 1) / 2, 1);
        // 2556, 2628, 4950, 5050 would be the sums of 71, 72, 99, 100.
        steps(71, 2485, 2);
        for (int a = 71; a <= 99; a++) {
            DUE.is("the sum of " + a + " in one step", new SixNumbers().signs(a, a * (a + 1) / 2) > 2 ? 1 : 0, 1);
        }
        steps(71, 2556, 2487);
    }

    // ---- '3 one less, if it is above 0'

    private static void oneLessTo0() {
        for (int a = 1; a <= 100; a++) steps(a, a - 1, 1);
        steps(1, 0, 1);
        steps(2, 0, 2);
        // From 0 on there is 0 and 1 alone, and nothing below 0.
        EDGES.changesNothing("signs(1, -1)", SixNumbers::new, x -> x.signs(1, -1), OUTSIDE);
    }

    // ---- 'What comes is 0 to 5040'

    private static void whatComesIs5040AtMost() {
        steps(7, 5040, 1);
        // 100 10 55 7 5040.
        steps(100, 5040, 4);
        EDGES.changesNothing("signs(100, 5041)", SixNumbers::new, x -> x.signs(100, 5041), OUTSIDE);
        steps(100, 5039, 5);
    }

    // ---- 'the fewest signs'

    private static void theFewest() {
        // 3 6 5; 3 6 5 4 24; 4 3 6 5; 100 10 3 1 0; 2 3 6 5 120 10 55 7 5040.
        steps(3, 5, 2);
        steps(3, 24, 4);
        steps(4, 5, 3);
        steps(100, 0, 4);
        steps(2, 5040, 8);
    }

    private static void oneObjectAskedForManyNumbers() {
        SixNumbers x = new SixNumbers();
        for (int a : new int[] {7, 1, 100, 7, 2, 1}) {
            for (int b : new int[] {0, 1, 24, 5040}) DUE.is("signs(" + a + ", " + b + ") again", x.signs(a, b), new SixNumbers().signs(a, b));
            DUE.is("signs(0, 1)", x.signs(0, 1), OUTSIDE);
        }
    }

    public static void main(String[] args) {
        signsTakesItsBounds();
        fromANumberToItselfThereAreNoSteps();
        from1Only0And1();
        from2OnAll();
        theRootIsCutDown();
        theProductTo7AtMost();
        theSumTo70AtMost();
        oneLessTo0();
        whatComesIs5040AtMost();
        theFewest();
        oneObjectAskedForManyNumbers();
        DUE.close();
    }
}
