import java.util.Arrays;

/** The sentences of '3 THE BOX' and promises 16 to 20 that name a boundary case, a test for each. */
public final class BoxEdgesTest {
    private static final int NONE = -1, OUTSIDE = -1002, FULL = -1004;
    private static final int PLUS = 1, LESS = 2, TIMES = 4, OVER = 8, ALL = 15;
    private static final Due DUE = new Due("BoxEdgesTest");
    private static final Edges EDGES = new Edges(DUE);

    private static void draws(String name, SixNumbers x, int n, int v, String want) {
        DUE.is("draws(" + n + ", " + v + ") of " + name, Made.drawsOf(x, n, v), want);
    }

    private static void most(String name, SixNumbers x, int n, int number, int count) {
        DUE.is("most(" + n + ", 0) of " + name, x.most(n, 0), number);
        DUE.is("most(" + n + ", 1) of " + name, x.most(n, 1), count);
    }

    private static void span(String name, SixNumbers x, int n, int v, String want) {
        DUE.is("span(" + n + ", " + v + ") " + name, Made.spanOf(x, n, v), want);
    }

    private static SixNumbers oneToTen() {
        return Made.boxOf(1, 2, 3, 4, 5, 6, 7, 8, 9, 10);
    }

    // ---- 'THE BOX has CARDS (10 at most)', promise 16: 'A CARD: its number. OUTSIDE, FULL'

    private static void theTenthCardIsTakenTheEleventhNot() {
        SixNumbers x = new SixNumbers();
        for (int k = 0; k < 10; k++) DUE.is("card " + k, x.card(11 + k), k);
        DUE.is("an eleventh card", x.card(50), FULL);
        DUE.is("told(3) of a full box", x.told(3), 10);
        DUE.is("cards of a full box", Made.cardsOf(x), "11 12 13 14 15 16 17 18 19 20 ");
        for (int good : new int[] {1, 100}) EDGES.changesNothing("card(" + good + "), full", BoxEdgesTest::oneToTen, y -> y.card(good), FULL);
        for (int bad : Edges.outside(1, 100)) EDGES.changesNothing("card(" + bad + "), full", BoxEdgesTest::oneToTen, y -> y.card(bad), OUTSIDE);
    }

    private static void aFullBoxOrHeapIsNotTheOther() {
        SixNumbers x = oneToTen();
        for (int k = 0; k < 6; k++) DUE.is("an item beside a full box", x.item(7), k);
        SixNumbers y = Made.heapOf(1, 2, 3, 4, 5, 6);
        for (int k = 0; k < 10; k++) DUE.is("a card beside a full heap", y.card(7), k);
    }

    // ---- 'numbers 1 to 100'

    private static void cardTakes1To100() {
        EDGES.bounds("card()", SixNumbers::new, SixNumbers::card, 1, 100, OUTSIDE);
        EDGES.bounds("card() behind nine", () -> Made.boxOf(1, 1, 1, 1, 1, 1, 1, 1, 1), SixNumbers::card, 1, 100, OUTSIDE);
        DUE.is("the cards 1 and 100", Made.cardsOf(Made.boxOf(1, 100)), "1 100 -1 -1 -1 -1 -1 -1 -1 -1 ");
        draws("1 100", Made.boxOf(1, 100), 1, 100, "2 1 1 2 ");
    }

    private static void everyNumberAsACard() {
        for (int v = -2; v <= 103; v++) {
            boolean good = v >= 1 && v <= 100;
            SixNumbers x = new SixNumbers();
            DUE.is("card(" + v + ")", x.card(v), good ? 0 : OUTSIDE);
            DUE.is("told(20) then", x.told(20), good ? v : NONE);
            DUE.is("told(3) then", x.told(3), good ? 1 : 0);
        }
    }

    // ---- promise 17: 'THE BOX is empty: how many CARDS it had'

    private static void emptyFrom0To10Cards() {
        for (int size = 0; size <= 10; size++) {
            SixNumbers x = new SixNumbers();
            for (int k = 0; k < size; k++) x.card(1 + k);
            x.draws(1, 1, 1);
            DUE.is("empty() of " + size, x.empty(), size);
            DUE.is("told(3) then", x.told(3), 0);
            DUE.is("cards then", Made.cardsOf(x), "-1 -1 -1 -1 -1 -1 -1 -1 -1 -1 ");
            draws("an emptied box", x, 1, 1, "0 0 0 1 ");
            DUE.is("empty() again", x.empty(), 0);
        }
        EDGES.changesNothing("empty() of none", () -> Made.heapOf(3, 5, 8), SixNumbers::empty, 0);
    }

    private static void afterEmptyThereIsRoomForTen() {
        SixNumbers x = oneToTen();
        x.empty();
        for (int k = 0; k < 10; k++) DUE.is("card " + k + " after empty", x.card(100 - k), k);
        DUE.is("an eleventh after empty", x.card(1), FULL);
        draws("the cards after empty", x, 1, 1, "10 0 0 1 ");
        draws("the cards after empty", x, 1, 91, "10 1 1 10 ");
    }

    // ---- 'a DRAW of n (1 .. 4) CARDS is a SET of them'; promise 18: '0 and 1, if there are none'

    private static void howManyDraws() {
        int[][] due = {{0, 0, 0, 0}, {1, 0, 0, 0}, {2, 1, 0, 0}, {3, 3, 1, 0}, {4, 6, 4, 1}, {5, 10, 10, 5}, {6, 15, 20, 15},
            {7, 21, 35, 35}, {8, 28, 56, 70}, {9, 36, 84, 126}, {10, 45, 120, 210}};
        SixNumbers x = new SixNumbers();
        for (int size = 0; size <= 10; size++) {
            for (int n = 1; n <= 4; n++) DUE.is("draws(" + n + ", 1, 0) of " + size, x.draws(n, 1, 0), due[size][n - 1]);
            x.card(7);
        }
    }

    private static void noDrawsOfFewerCards() {
        int[] cards = {5, 5, 5};
        for (int size = 0; size <= 3; size++) {
            SixNumbers x = Made.boxOf(Arrays.copyOf(cards, size));
            for (int n = size + 1; n <= 4; n++) {
                draws(size + " cards", x, n, 5, "0 0 0 1 ");
                most(size + " cards", x, n, 1, 0);
            }
            if (size > 0) draws(size + " cards, all drawn", x, size, 5, "1 1 1 1 ");
        }
    }

    private static void drawsTakesItsBounds() {
        Edges.Maker maker = BoxEdgesTest::oneToTen;
        EDGES.bounds("draws(.., 1, 0)", maker, (x, n) -> x.draws(n, 1, 0), 1, 4, OUTSIDE);
        EDGES.bounds("draws(1, .., 0)", maker, (x, v) -> x.draws(1, v, 0), 1, 3000, OUTSIDE);
        EDGES.bounds("draws(4, .., 3)", maker, (x, v) -> x.draws(4, v, 3), 1, 3000, OUTSIDE);
        EDGES.bounds("draws(2, 6, ..)", maker, (x, what) -> x.draws(2, 6, what), 0, 3, OUTSIDE);
        EDGES.bounds("draws(.., 1, 0) of none", SixNumbers::new, (x, n) -> x.draws(n, 1, 0), 1, 4, OUTSIDE);
        EDGES.bounds("draws(1, .., 2) of none", SixNumbers::new, (x, v) -> x.draws(1, v, 2), 1, 3000, OUTSIDE);
        EDGES.bounds("draws(4, 1, ..) of none", SixNumbers::new, (x, what) -> x.draws(4, 1, what), 0, 3, OUTSIDE);
        draws("30 100", Made.boxOf(30, 100), 2, 3000, "1 1 1 1 ");
        draws("31 100", Made.boxOf(31, 100), 2, 3000, "1 0 0 1 ");
        draws("1 2", Made.boxOf(1, 2), 2, 1, "1 1 1 1 ");
    }

    private static void the3000thIsCountedAnew() {
        SixNumbers x = Made.boxOf(30, 100);
        draws("30 100", x, 2, 3000, "1 1 1 1 ");
        x.card(7);
        draws("30 100 7", x, 2, 3000, "3 1 1 3 ");
        x.rule(1, 2999);
        draws("30 100 7, MOST 2999", x, 2, 3000, "3 0 0 1 ");
        x.rule(1, 3000);
        draws("30 100 7, MOST 3000", x, 2, 3000, "3 1 1 3 ");
        x.empty();
        draws("none", x, 2, 3000, "0 0 0 1 ");
    }

    // ---- 'the chance in least terms'

    private static void chancesInLeastTerms() {
        SixNumbers x = Made.ruledBox(0, 3000, 1, 2, 3, 4, 5, 6, 7, 8, 9, 9);
        // Without ACTS: of 10, 45, 120, 210 draws one card is in 1, 9, 36, 84; one of two in 2, 17, 64, 140.
        draws("1 .. 9 9", x, 1, 1, "10 1 1 10 ");
        draws("1 .. 9 9", x, 2, 1, "45 9 1 5 ");
        draws("1 .. 9 9", x, 3, 1, "120 36 3 10 ");
        draws("1 .. 9 9", x, 4, 1, "210 84 2 5 ");
        draws("1 .. 9 9", x, 1, 9, "10 2 1 5 ");
        draws("1 .. 9 9", x, 2, 9, "45 17 17 45 ");
        draws("1 .. 9 9", x, 3, 9, "120 64 8 15 ");
        draws("1 .. 9 9", x, 4, 9, "210 140 2 3 ");
        draws("1 .. 9 9", x, 4, 10, "210 0 0 1 ");
        draws("like cards", Made.boxOf(7, 7, 7, 7, 7, 7, 7, 7, 7, 7), 4, 7, "210 210 1 1 ");
    }

    // ---- 'a DRAW REACHES a number, if THE HEAP with just these would, by the ACTS and MOST that are told'

    private static void drawsByTheActsAndMostToldNow() {
        SixNumbers x = Made.boxOf(2, 3);
        String yes = "1 1 1 1 ";
        String no = "1 0 0 1 ";
        int[] comes = {5, 1, 6};
        for (int acts = 0; acts <= ALL; acts++) {
            x.rule(0, acts);
            for (int act = 0; act < comes.length; act++) draws("2 3 by ACTS " + acts, x, 2, comes[act], (acts >> act & 1) == 1 ? yes : no);
            draws("2 3 by ACTS " + acts, x, 2, 3, yes);
        }
        x.rule(1, 6);
        draws("2 3, MOST 6", x, 2, 6, yes);
        x.rule(1, 5);
        draws("2 3, MOST 5", x, 2, 6, no);
        x.rule(1, 1);
        draws("2 3, MOST 1", x, 2, 3, yes);
        draws("2 3, MOST 1", x, 2, 1, yes);
    }

    private static void someOfTheDrawMayStayOver() {
        SixNumbers x = Made.boxOf(2, 3, 50, 100);
        draws("2 3 50 100", x, 4, 2, "1 1 1 1 ");
        draws("2 3 50 100", x, 4, 5, "1 1 1 1 ");
        x.rule(0, PLUS);
        draws("2 3 50 100 by plus", x, 3, 5, "4 2 1 2 ");
    }

    private static void theHeapIsNotDrawnFrom() {
        SixNumbers x = Made.heapOf(50, 60, 70, 80, 90, 100);
        draws("no cards", x, 1, 50, "0 0 0 1 ");
        x.card(7);
        draws("7", x, 1, 50, "1 0 0 1 ");
        draws("7", x, 1, 7, "1 1 1 1 ");
        DUE.is("numbers of ITEM 0", Made.numbersOf(x, 1), "50 ");
        DUE.is("the items", Made.itemsOf(x), "50 60 70 80 90 100 ");
        Edges.Maker maker = () -> {
            SixNumbers y = Made.heapOf(3, 5, 8);
            y.card(7);
            y.card(9);
            return y;
        };
        EDGES.changesNothing("draws(2, 16, 1)", maker, y -> y.draws(2, 16, 1), 1);
        EDGES.changesNothing("most(2, 1)", maker, y -> y.most(2, 1), 1);
        EDGES.changesNothing("span(3, 17, 2)", maker, y -> y.span(3, 17, 2), 10);
    }

    // ---- promise 19: 'The number from 1 to 100 that most DRAWS of n REACH, of like ones the least'

    private static void mostTakesItsBounds() {
        EDGES.bounds("most(.., 0)", BoxEdgesTest::oneToTen, (x, n) -> x.most(n, 0), 1, 4, OUTSIDE);
        EDGES.bounds("most(2, ..)", BoxEdgesTest::oneToTen, (x, what) -> x.most(2, what), 0, 1, OUTSIDE);
        EDGES.bounds("most(.., 1) of none", SixNumbers::new, (x, n) -> x.most(n, 1), 1, 4, OUTSIDE);
        EDGES.bounds("most(4, ..) of none", SixNumbers::new, (x, what) -> x.most(4, what), 0, 1, OUTSIDE);
    }

    private static void mostOfNoDraws() {
        for (int n = 1; n <= 4; n++) most("none", new SixNumbers(), n, 1, 0);
        SixNumbers x = Made.boxOf(7, 7);
        most("7 7", x, 3, 1, 0);
        most("7 7", x, 1, 7, 2);
        x.empty();
        most("an emptied box", x, 1, 1, 0);
    }

    private static void mostFrom1To100() {
        most("1", Made.boxOf(1), 1, 1, 1);
        most("100", Made.boxOf(100), 1, 100, 1);
        most("99 100", Made.boxOf(100, 99), 1, 99, 1);
        most("99 100 100", Made.boxOf(99, 100, 100), 1, 100, 2);
        most("1 and 100s by plus", Made.ruledBox(PLUS, 3000, 1, 100, 100, 100), 2, 100, 6);
        // Of 210 draws 80 have none of the five pairs that make 101, and 104 none of the four that make
        // 100, or of the four that make 99: 101 is reached by the most, 130, but is above 100.
        SixNumbers x = Made.ruledBox(PLUS, 3000, 46, 47, 48, 49, 50, 51, 52, 53, 54, 55);
        DUE.is("draws(4, 101, 1) of 46 .. 55 by plus", x.draws(4, 101, 1), 130);
        most("46 .. 55 by plus", x, 4, 99, 106);
    }

    private static void ofLikeOnesTheLeast() {
        most("9 4 7", Made.boxOf(9, 4, 7), 1, 4, 1);
        most("3 4 without ACTS", Made.ruledBox(0, 3000, 4, 3), 2, 3, 1);
        most("5 7", Made.boxOf(5, 7), 2, 2, 1);
    }

    // ---- promise 20: 'span for n (1 .. 3) and v (1 .. 100): .. i 0 .. n less 1'

    private static void spanTakesItsBounds() {
        EDGES.bounds("span(.., 1, 0)", SixNumbers::new, (x, n) -> x.span(n, 1, 0), 1, 3, OUTSIDE);
        for (int n = 1; n <= 3; n++) {
            int size = n;
            EDGES.bounds("span(" + n + ", .., 0)", SixNumbers::new, (x, v) -> x.span(size, v, 0), 1, 100, OUTSIDE);
            EDGES.bounds("span(" + n + ", 1, ..)", SixNumbers::new, (x, i) -> x.span(size, 1, i), 0, n - 1, OUTSIDE);
            EDGES.bounds("span(" + n + ", 100, ..)", SixNumbers::new, (x, i) -> x.span(size, 100, i), 0, n - 1, OUTSIDE);
        }
    }

    // ---- '(as THE HEAP)': nothing of a draw, or of a span of more numbers, is left there

    private static void aSpanIsOfJustItsNumbers() {
        SixNumbers x = Made.boxOf(1, 2, 3, 4);
        draws("1 2 3 4", x, 4, 24, "1 1 1 1 ");
        span("after a draw of four", x, 1, 2, "-1 ");
        span("after a draw of four", x, 2, 5, "-1 -1 ");
        span("after a draw of four", x, 3, 18, "-1 -1 -1 ");
        span("after one of three", x, 1, 2, "-1 ");
        draws("1 2 3 4 after spans", x, 1, 7, "4 0 0 1 ");
        draws("1 2 3 4 after spans", x, 2, 24, "6 0 0 1 ");
    }

    // ---- 'NONE: there is none such'

    private static void theLastSpanAndTheFirstThatIsNot() {
        SixNumbers x = new SixNumbers();
        span("the last", x, 1, 1, "1 ");
        span("none", x, 1, 2, "-1 ");
        span("the last", x, 2, 4, "1 3 ");
        span("none", x, 2, 5, "-1 -1 ");
        // 2 3 10: 1 is 3-2, 4 is 10-(2*3), 9 is (2+10)-3, 14 is 2*(10-3), 17 is (2*10)-3.
        span("the last", x, 3, 17, "2 3 10 ");
        span("none", x, 3, 18, "-1 -1 -1 ");
        span("none", x, 1, 100, "-1 ");
        span("none", x, 3, 100, "-1 -1 -1 ");
    }

    // ---- 'of all SETS of n unlike numbers from 1 to 12'

    private static void unlikeNumbers() {
        // 1 and 1 would be 1 and 2 too, and come first; 1 1 1 would be 1, 2, 3.
        span("unlike", new SixNumbers(), 2, 2, "1 2 ");
        span("unlike by plus", Made.ruledHeap(PLUS, 3000), 2, 2, "1 2 ");
        span("unlike", new SixNumbers(), 3, 3, "1 2 3 ");
    }

    private static void numbersTo12() {
        // By over alone: 1 is 2 over (12 over 6), 2, 3 is 6 over 2, 4 is 12 over (6 over 2).
        span("with 12", Made.ruledHeap(OVER, 4), 3, 4, "2 6 12 ");
        // All to 12 by 1 2 5; all to 13 would be by 2 6 13, but 13 is none of them.
        span("to 12, MOST 12", Made.ruledHeap(ALL, 12), 3, 12, "1 2 5 ");
        span("to 13, MOST 12", Made.ruledHeap(ALL, 12), 3, 13, "-1 -1 -1 ");
    }

    // ---- 'the first one, by the least of its numbers, then the next, and so on'

    private static void theFirstByTheLeastThenTheNext() {
        span("without ACTS", Made.ruledHeap(0, 3000), 3, 1, "1 2 3 ");
        span("without ACTS", Made.ruledHeap(0, 3000), 2, 1, "1 2 ");
        span("by all ACTS", new SixNumbers(), 2, 3, "1 2 ");
        span("by all ACTS", new SixNumbers(), 2, 4, "1 3 ");
        // MOST 3: 4 and 5 are to be there; 1 4 5 before 2 4 5 and 3 4 5.
        span("MOST 3", Made.ruledHeap(ALL, 3), 3, 5, "1 4 5 ");
        span("MOST 3", Made.ruledHeap(ALL, 3), 3, 6, "4 5 6 ");
        // MOST 3: 1 2 4 has 3 as 4 less 1; before it comes 1 2 3 without 4.
        span("MOST 3", Made.ruledHeap(ALL, 3), 3, 4, "1 2 4 ");
    }

    private static void spansByTheActsAndMostToldNow() {
        SixNumbers x = new SixNumbers();
        span("by all ACTS", x, 2, 4, "1 3 ");
        x.rule(0, PLUS);
        span("by plus", x, 2, 4, "-1 -1 ");
        x.rule(0, LESS + PLUS);
        span("by plus and less", x, 2, 4, "1 3 ");
        x.rule(1, 3);
        span("by plus and less, MOST 3", x, 2, 4, "-1 -1 ");
        x.rule(1, 4);
        span("by plus and less, MOST 4", x, 2, 4, "1 3 ");
        x.rule(0, TIMES);
        span("by times", x, 3, 3, "1 2 3 ");
        span("by times", x, 3, 4, "-1 -1 -1 ");
        x.rule(0, 0);
        span("without ACTS", x, 3, 3, "1 2 3 ");
        span("without ACTS", x, 3, 4, "-1 -1 -1 ");
    }

    public static void main(String[] args) {
        theTenthCardIsTakenTheEleventhNot();
        aFullBoxOrHeapIsNotTheOther();
        cardTakes1To100();
        everyNumberAsACard();
        emptyFrom0To10Cards();
        afterEmptyThereIsRoomForTen();
        howManyDraws();
        noDrawsOfFewerCards();
        drawsTakesItsBounds();
        the3000thIsCountedAnew();
        chancesInLeastTerms();
        drawsByTheActsAndMostToldNow();
        someOfTheDrawMayStayOver();
        theHeapIsNotDrawnFrom();
        mostTakesItsBounds();
        mostOfNoDraws();
        mostFrom1To100();
        ofLikeOnesTheLeast();
        spanTakesItsBounds();
        aSpanIsOfJustItsNumbers();
        theLastSpanAndTheFirstThatIsNot();
        unlikeNumbers();
        numbersTo12();
        theFirstByTheLeastThenTheNext();
        spansByTheActsAndMostToldNow();
        DUE.close();
    }
}
