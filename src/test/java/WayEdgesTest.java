/** The sentences of '2 THE FEWEST' and promises 12 to 15 that name a boundary case, a test for each. */
public final class WayEdgesTest {
    private static final int NONE = -1, OUTSIDE = -1002, NOT = -1003;
    private static final int PLUS = 1, LESS = 2, TIMES = 4, OVER = 8, ALL = 15;
    private static final Due DUE = new Due("WayEdgesTest");
    private static final Edges EDGES = new Edges(DUE);

    private static void aims(String name, SixNumbers x, int v, int reached, int fewest, int first, int nearest) {
        int[] want = {reached, fewest, first, nearest};
        for (int what = 0; what < 4; what++) DUE.is("aim(" + v + ", " + what + ") of " + name, x.aim(v, what), want[what]);
    }

    private static void printed(SixNumbers x, int v, String want) {
        DUE.is("print(" + v + "), due is " + want, x.print(v), want.length());
        DUE.is("the out", Made.outOf(x), want);
    }

    private static void printedOf(SixNumbers x, int set, int v, String want) {
        DUE.is("printOf(" + set + ", " + v + "), due is " + want, x.printOf(set, v), want.length());
        DUE.is("the out", Made.outOf(x), want);
    }

    // ---- 'THE FEWEST for a number that is REACHED: the least count of ITEMS'

    private static void fewestFrom1To6() {
        SixNumbers x = Made.ruledHeap(PLUS, 3000, 1, 2, 4, 8, 16, 32);
        for (int v = 1; v <= 63; v++) aims("powers by plus", x, v, 1, Integer.bitCount(v), v, v);
        aims("powers by plus", x, 64, 0, NONE, NONE, 63);
    }

    private static void oneItemIsFewerThanTwo() {
        // 5 is 2 plus 3, by the lesser SET 3, but by one ITEM in SET 4.
        aims("2 3 5", Made.heapOf(2, 3, 5), 5, 1, 1, 4, 5);
        aims("2 3 4", Made.heapOf(2, 3, 4), 5, 1, 2, 3, 5);
    }

    // ---- 'THE FIRST SET: of those of so many ITEMS the least number'

    private static void theLeastSetOfSoManyItems() {
        aims("5 5 5", Made.heapOf(5, 5, 5), 5, 1, 1, 1, 5);
        aims("9 5 5", Made.heapOf(9, 5, 5), 5, 1, 1, 2, 5);
        // 7 is 1 plus 6 (SET 9) and 4 plus 3 (SET 6).
        aims("1 4 3 6 by plus", Made.ruledHeap(PLUS, 3000, 1, 4, 3, 6), 7, 1, 2, 6, 7);
        // 7 is 6 plus 1 (SET 3) and 4 plus 3 (SET 12).
        aims("6 1 4 3 by plus", Made.ruledHeap(PLUS, 3000, 6, 1, 4, 3), 7, 1, 2, 3, 7);
    }

    // ---- promise 12: 'aim 1 .. 3000', what 0 .. 3, 'NONE: THE HEAP is empty'

    private static void aimTakesItsBounds() {
        Edges.Maker maker = () -> Made.heapOf(100, 30);
        for (int what = 0; what < 4; what++) {
            int asked = what;
            EDGES.bounds("aim(.., " + what + ")", maker, (x, v) -> x.aim(v, asked), 1, 3000, OUTSIDE);
            EDGES.bounds("aim(.., " + what + ") of none", SixNumbers::new, (x, v) -> x.aim(v, asked), 1, 3000, OUTSIDE);
        }
        EDGES.bounds("aim(3000, ..)", maker, (x, what) -> x.aim(3000, what), 0, 3, OUTSIDE);
        EDGES.bounds("aim(1, ..) of none", SixNumbers::new, (x, what) -> x.aim(1, what), 0, 3, OUTSIDE);
        aims("100 30", Made.heapOf(100, 30), 3000, 1, 2, 3, 3000);
        aims("100 30", Made.heapOf(100, 30), 1, 0, NONE, NONE, 30);
        aims("100 30, MOST 2999", Made.ruledHeap(ALL, 2999, 100, 30), 3000, 0, NONE, NONE, 130);
        aims("1", Made.heapOf(1), 1, 1, 1, 1, 1);
    }

    private static void ofAnEmptyHeapThereIsNoNearest() {
        for (int v : new int[] {1, 2, 1500, 2999, 3000}) aims("none", new SixNumbers(), v, 0, NONE, NONE, NONE);
        SixNumbers x = Made.heapOf(7, 8);
        aims("7 8", x, 3000, 0, NONE, NONE, 56);
        x.cut(0);
        aims("7 8, cut", x, 7, 0, NONE, NONE, NONE);
    }

    // ---- 'NEAREST to an aim: .. the least size of the difference; of two the lesser one'

    private static void ofTwoAsNearTheLesser() {
        SixNumbers x = Made.ruledHeap(0, 3000, 10, 20);
        int[][] due = {{1, 10}, {9, 10}, {10, 10}, {11, 10}, {14, 10}, {15, 10}, {16, 20}, {19, 20}, {20, 20}, {21, 20}, {3000, 20}};
        for (int[] row : due) DUE.is("aim(" + row[0] + ", 3) of 10 20", x.aim(row[0], 3), row[1]);
        SixNumbers turned = Made.ruledHeap(0, 3000, 20, 10);
        DUE.is("aim(15, 3) of 20 10", turned.aim(15, 3), 10);
    }

    private static void nearestAtTheEndsOfTheNumbers() {
        DUE.is("aim(3000, 3) of 1", Made.heapOf(1).aim(3000, 3), 1);
        DUE.is("aim(1, 3) of 100", Made.heapOf(100).aim(1, 3), 100);
        DUE.is("aim(2999, 3) of 100 30", Made.heapOf(100, 30).aim(2999, 3), 3000);
        // 1565 is as far from 130 as from 3000.
        DUE.is("aim(1565, 3) of 100 30", Made.heapOf(100, 30).aim(1565, 3), 130);
        DUE.is("aim(1566, 3) of 100 30", Made.heapOf(100, 30).aim(1566, 3), 3000);
    }

    // ---- 'THE FIRST WAY of a SET to a number: with the least left SET (as a number)'

    private static void theLeastLeftSetBeforeTheLeastAct() {
        // 1 times (5 less 2) has the left SET 1; 5 less (1 times 2) the lesser ACT, but the left SET 2.
        printedOf(Made.heapOf(1, 5, 2), 7, 3, "(1*(5-2))");
        printedOf(Made.ruledHeap(ALL - TIMES, 3000, 1, 5, 2), 7, 3, "(5-(2/1))");
        // 3 plus (8 less 5): the left SET 1; (3 plus 8) less 5: the left SET 3.
        printedOf(Made.ruledHeap(PLUS + LESS, 3000, 3, 8, 5), 7, 6, "(3+(8-5))");
    }

    private static void theLeastItemIsOnTheLeftOfPlusAndTimes() {
        printed(Made.heapOf(2, 3, 5), 13, "((2*5)+3)");
        printed(Made.ruledHeap(PLUS, 3000, 8, 3), 11, "(8+3)");
        printed(Made.ruledHeap(PLUS, 3000, 3, 8), 11, "(3+8)");
        printed(Made.ruledHeap(TIMES, 3000, 8, 3), 24, "(8*3)");
        printed(Made.ruledHeap(TIMES, 3000, 3, 8), 24, "(3*8)");
    }

    private static void theGreaterIsOnTheLeftOfLessAndOver() {
        printed(Made.ruledHeap(LESS, 3000, 8, 3), 5, "(8-3)");
        printed(Made.ruledHeap(LESS, 3000, 3, 8), 5, "(8-3)");
        printed(Made.ruledHeap(OVER, 3000, 8, 2), 4, "(8/2)");
        printed(Made.ruledHeap(OVER, 3000, 2, 8), 4, "(8/2)");
    }

    // ---- 'of like ones with the least ACT'

    private static void theLeastActOfLikeLeftSets() {
        printedOf(Made.heapOf(2, 2), 3, 4, "(2+2)");
        printedOf(Made.heapOf(4, 2), 3, 2, "(4-2)");
        printedOf(Made.heapOf(1, 1), 3, 1, "(1*1)");
        printedOf(Made.heapOf(7, 1), 3, 7, "(7*1)");
        printedOf(Made.ruledHeap(ALL - PLUS, 3000, 2, 2), 3, 4, "(2*2)");
        printedOf(Made.ruledHeap(ALL - LESS, 3000, 4, 2), 3, 2, "(4/2)");
        printedOf(Made.ruledHeap(ALL - TIMES, 3000, 7, 1), 3, 7, "(7/1)");
    }

    // ---- 'then with the least x; both parts likewise, each by itself'

    private static void thenTheLeastX() {
        // 1 and 6, 6 and 1.
        printedOf(Made.ruledHeap(ALL - OVER, 3000, 2, 2, 3, 3), 15, 7, "((3-2)+(2*3))");
        // 8 and 4, 16 and 12.
        printedOf(Made.ruledHeap(ALL - OVER, 3000, 4, 4, 2, 6), 15, 4, "((4+4)-(6-2))");
        // 1 and 12, 3 and 4.
        printedOf(Made.ruledHeap(ALL - OVER, 3000, 1, 2, 2, 6), 15, 12, "((2-1)*(2*6))");
        // 8 and 2, 12 and 3.
        printedOf(Made.heapOf(6, 2, 3, 6), 15, 4, "((6+2)/(6/3))");
    }

    private static void eachPartByItself() {
        printedOf(Made.heapOf(2, 2, 100), 7, 400, "(2*(2*100))");
        printedOf(Made.ruledHeap(PLUS + TIMES, 3000, 2, 2, 2, 2), 15, 8, "(2+(2+(2+2)))");
        printedOf(Made.ruledHeap(TIMES, 3000, 2, 2, 2, 2), 15, 16, "(2*(2*(2*2)))");
        printedOf(Made.ruledHeap(OVER, 3000, 1, 1, 1), 7, 1, "(1/(1/1))");
    }

    // ---- 'PRINTED: an ITEM as its number; else ( and the left part, a byte + - * /, the right part and )'

    private static void anItemOfOneTwoAndThreeDigits() {
        for (int v : new int[] {1, 9, 10, 11, 99, 100}) {
            printed(Made.heapOf(v), v, "" + v);
            printedOf(Made.heapOf(v), 1, v, "" + v);
        }
        printed(Made.ruledHeap(PLUS, 3000, 9, 100), 109, "(9+100)");
    }

    private static void theBytes() {
        char[] marks = {'+', '-', '*', '/'};
        int[] bytes = {43, 45, 42, 47};
        int[] comes = {12, 8, 20, 5};
        for (int act = 0; act < 4; act++) {
            SixNumbers x = Made.ruledHeap(1 << act, 3000, 10, 2);
            DUE.is("print by " + marks[act], x.print(comes[act]), 6);
            int[] due = {40, 49, 48, bytes[act], 50, 41, NONE};
            for (int i = 0; i < due.length; i++) DUE.is("out(" + i + ") by " + marks[act], x.out(i), due[i]);
        }
        for (int digit = 1; digit <= 9; digit++) {
            SixNumbers x = Made.heapOf(digit);
            x.print(digit);
            DUE.is("the byte of " + digit, x.out(0), 48 + digit);
        }
    }

    private static void theLongestOut() {
        SixNumbers x = Made.ruledHeap(PLUS, 3000, 100, 100, 100, 100, 100, 100);
        DUE.is("print(600)", x.print(600), 33);
        DUE.is("told(4)", x.told(4), 33);
        DUE.is("the out", Made.outOf(x), "(100+(100+(100+(100+(100+100)))))");
        DUE.is("out(32)", x.out(32), ')');
        for (int none : new int[] {33, 34, -1, Edges.LEAST, Edges.GREATEST}) DUE.is("out(" + none + ")", x.out(none), NONE);
    }

    // ---- 'of one ITEM: it is v. Of several: an ACT ..', 'What comes is to be at most MOST'

    private static void anItemAboveMostIsReachedAndPrinted() {
        SixNumbers x = Made.ruledHeap(ALL, 1, 100, 99, 7);
        aims("100 99 7, MOST 1", x, 100, 1, 1, 1, 100);
        aims("100 99 7, MOST 1", x, 7, 1, 1, 4, 7);
        printed(x, 99, "99");
        printedOf(x, 1, 100, "100");
        // 1 is 100 less 99, of two parts above MOST; 93, 100 less 7, is none.
        aims("100 99 7, MOST 1", x, 1, 1, 2, 3, 1);
        printed(x, 1, "(100-99)");
        aims("100 99 7, MOST 1", x, 93, 0, NONE, NONE, 99);
        // By an ACT 100 would be 100 over 1: it is above MOST, though as an ITEM it is there.
        SixNumbers y = Made.ruledHeap(ALL, 99, 100, 1);
        DUE.is("all(100), MOST 99", y.all(100), 1);
        EDGES.changesNothing("printOf(3, 100), MOST 99", () -> Made.ruledHeap(ALL, 99, 100, 1), z -> z.printOf(3, 100), NOT);
        printed(y, 100, "100");
    }

    // ---- promise 13: 'OUTSIDE; NOT: it is not REACHED'

    private static void printTakes1To3000() {
        EDGES.bounds("print()", () -> Made.heapOf(100, 30, 1), SixNumbers::print, 1, 3000, OUTSIDE);
        EDGES.changesNothing("print(0) of none", SixNumbers::new, x -> x.print(0), OUTSIDE);
        EDGES.changesNothing("print(3001) of none", SixNumbers::new, x -> x.print(3001), OUTSIDE);
        printed(Made.heapOf(100, 30, 1), 1, "1");
        printed(Made.heapOf(100, 30, 1), 3000, "(100*30)");
    }

    private static SixNumbers printed24() {
        SixNumbers x = Made.heapOf(3, 5, 8);
        x.print(24);
        return x;
    }

    private static void printOnlyOfWhatIsReached() {
        for (int v : new int[] {1, 2, 3000}) EDGES.changesNothing("print(" + v + ") of none", SixNumbers::new, x -> x.print(v), NOT);
        DUE.is("the out that stands", Made.outOf(printed24()), "(3*8)");
        for (int v : new int[] {12, 121, 3000}) {
            EDGES.changesNothing("print(" + v + ") of 3 5 8", WayEdgesTest::printed24, x -> x.print(v), NOT);
        }
        printed(printed24(), 120, "(3*(5*8))");
        SixNumbers x = printed24();
        x.rule(1, 119);
        DUE.is("print(120), MOST 119", x.print(120), NOT);
        DUE.is("the out then", Made.outOf(x), "(3*8)");
    }

    // ---- promise 14: 'likewise. OUTSIDE; NOT: it has none'

    private static void printOfTakesItsBounds() {
        Edges.Maker ones = () -> Made.heapOf(1, 1, 1, 1, 1, 1);
        EDGES.bounds("printOf(.., 1) of six", ones, (x, set) -> x.printOf(set, 1), 1, 63, OUTSIDE);
        EDGES.bounds("printOf(.., 1) of two", () -> Made.heapOf(1, 1), (x, set) -> x.printOf(set, 1), 1, 3, OUTSIDE);
        EDGES.bounds("printOf(1, ..)", () -> Made.heapOf(1, 30, 100), (x, v) -> x.printOf(v == 1 ? 1 : 6, v), 1, 3000, OUTSIDE);
        for (int set : new int[] {0, 1, -1}) EDGES.changesNothing("printOf(" + set + ", 1) of none", SixNumbers::new, x -> x.printOf(set, 1), OUTSIDE);
    }

    private static void printOfOnlyOfWhatTheSetHas() {
        // 24 is REACHED, by SET 5 alone.
        for (int set : new int[] {1, 2, 3, 4, 6, 7}) {
            EDGES.changesNothing("printOf(" + set + ", 24)", WayEdgesTest::printed24, x -> x.printOf(set, 24), NOT);
        }
        printedOf(printed24(), 5, 24, "(3*8)");
        EDGES.changesNothing("printOf(3, 9) without ACTS", () -> Made.ruledHeap(0, 3000, 6, 3), x -> x.printOf(3, 9), NOT);
    }

    // ---- promise 15: 'Byte i of THE OUT; NONE'

    private static void outFromTheFirstToTheLast() {
        SixNumbers x = printed24();
        DUE.is("out(0)", x.out(0), '(');
        DUE.is("out(4)", x.out(4), ')');
        for (int none : Edges.outside(0, 4)) EDGES.changesNothing("out(" + none + ")", WayEdgesTest::printed24, y -> y.out(none), NONE);
        for (int none : new int[] {0, 1, -1}) EDGES.changesNothing("out(" + none + ") of a new one", SixNumbers::new, y -> y.out(none), NONE);
    }

    private static void aShorterOutLeavesNothingOfALonger() {
        SixNumbers x = printed24();
        printed(x, 8, "8");
        for (int none = 1; none <= 5; none++) DUE.is("out(" + none + ") of a shorter one", x.out(none), NONE);
        DUE.is("told(4)", x.told(4), 1);
        printedOf(x, 7, 120, "(3*(5*8))");
    }

    private static void theOutStaysWhenTheHeapGoes() {
        SixNumbers x = printed24();
        x.set(0, 100);
        x.rule(0, 0);
        x.cut(0);
        DUE.is("the out, the heap empty", Made.outOf(x), "(3*8)");
        DUE.is("told(4), the heap empty", x.told(4), 5);
    }

    public static void main(String[] args) {
        fewestFrom1To6();
        oneItemIsFewerThanTwo();
        theLeastSetOfSoManyItems();
        aimTakesItsBounds();
        ofAnEmptyHeapThereIsNoNearest();
        ofTwoAsNearTheLesser();
        nearestAtTheEndsOfTheNumbers();
        theLeastLeftSetBeforeTheLeastAct();
        theLeastItemIsOnTheLeftOfPlusAndTimes();
        theGreaterIsOnTheLeftOfLessAndOver();
        theLeastActOfLikeLeftSets();
        thenTheLeastX();
        eachPartByItself();
        anItemOfOneTwoAndThreeDigits();
        theBytes();
        theLongestOut();
        anItemAboveMostIsReachedAndPrinted();
        printTakes1To3000();
        printOnlyOfWhatIsReached();
        printOfTakesItsBounds();
        printOfOnlyOfWhatTheSetHas();
        outFromTheFirstToTheLast();
        aShorterOutLeavesNothingOfALonger();
        theOutStaysWhenTheHeapGoes();
        DUE.close();
    }
}
