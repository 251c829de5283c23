import java.util.Arrays;

/** The sentences of '1 THE HEAP' and promises 1 to 11 that name a boundary case, a test for each. */
public final class HeapEdgesTest {
    private static final int NONE = -1, UNKNOWN = -1001, OUTSIDE = -1002, FULL = -1004;
    private static final int PLUS = 1, LESS = 2, TIMES = 4, OVER = 8, ALL = 15;
    private static final Due DUE = new Due("HeapEdgesTest");
    private static final Edges EDGES = new Edges(DUE);

    private static void numbers(String name, SixNumbers x, int set, String want) {
        DUE.is(name, Made.numbersOf(x, set), want);
    }

    // ---- 'An object is used for at most 512 calls after it has been made'

    private static void the512thCallHolds() {
        SixNumbers x = Made.heapOf(1, 2, 3, 4, 5, 6);
        for (int call = 7; call <= 508; call++) x.set(call % 6, 1 + call % 100);
        x.set(0, 2);
        x.cut(1);
        x.print(2);
        DUE.is("call 512", x.out(0), '2');
    }

    // ---- promise 1: 'THE HEAP, THE BOX, THE OUT are empty; all as at first'

    private static void aNewHeapIsEmpty() {
        SixNumbers x = new SixNumbers();
        DUE.is("told(0) of a new one", x.told(0), 0);
        DUE.is("items of a new one", Made.itemsOf(x), "-1 -1 -1 -1 -1 -1 ");
        DUE.is("cut(0) of a new one", x.cut(0), 0);
        DUE.is("reached(0) of a new one", x.reached(0), 0);
    }

    private static void aNewBoxIsEmpty() {
        SixNumbers x = new SixNumbers();
        DUE.is("told(3) of a new one", x.told(3), 0);
        DUE.is("cards of a new one", Made.cardsOf(x), "-1 -1 -1 -1 -1 -1 -1 -1 -1 -1 ");
        DUE.is("empty() of a new one", x.empty(), 0);
    }

    private static void aNewOutIsEmpty() {
        SixNumbers x = new SixNumbers();
        DUE.is("told(4) of a new one", x.told(4), 0);
        for (int i = -1; i <= 40; i++) DUE.is("out(" + i + ") of a new one", x.out(i), NONE);
    }

    private static void allActsAndMostAtFirst() {
        DUE.is("told(1) of a new one", new SixNumbers().told(1), ALL);
        DUE.is("told(2) of a new one", new SixNumbers().told(2), 3000);
        DUE.is("what rule(0, 0) of a new one was", new SixNumbers().rule(0, 0), ALL);
        DUE.is("what rule(1, 1) of a new one was", new SixNumbers().rule(1, 1), 3000);
    }

    // ---- 'THE HEAP has ITEMS (6 at most)'

    private static void theSixthItemIsTakenTheSeventhNot() {
        SixNumbers x = Made.heapOf(1, 2, 3, 4, 5);
        DUE.is("a sixth item", x.item(6), 5);
        DUE.is("a seventh item", x.item(7), FULL);
        DUE.is("items of a full heap", Made.itemsOf(x), "1 2 3 4 5 6 ");
        DUE.is("told(0) of a full heap", x.told(0), 6);
    }

    private static void aFullHeapCutTakesAgain() {
        SixNumbers x = Made.heapOf(1, 2, 3, 4, 5, 6);
        DUE.is("cut(5) of a full heap", x.cut(5), 1);
        DUE.is("an item after it", x.item(100), 5);
        DUE.is("one more", x.item(100), FULL);
        DUE.is("items then", Made.itemsOf(x), "1 2 3 4 5 100 ");
    }

    private static void aFullHeapSetsAllItsItems() {
        SixNumbers x = Made.heapOf(1, 2, 3, 4, 5, 6);
        for (int k = 0; k < 6; k++) DUE.is("set(" + k + ", 9) of a full heap", x.set(k, 9), k + 1);
        DUE.is("items then", Made.itemsOf(x), "9 9 9 9 9 9 ");
        DUE.is("set(6, 9)", x.set(6, 9), UNKNOWN);
    }

    // ---- 'each a number 1 to 100'

    private static void itemTakes1To100() {
        EDGES.bounds("item()", SixNumbers::new, SixNumbers::item, 1, 100, OUTSIDE);
        EDGES.bounds("item() behind five", () -> Made.heapOf(1, 1, 1, 1, 1), SixNumbers::item, 1, 100, OUTSIDE);
        SixNumbers x = Made.heapOf(1, 100);
        DUE.is("the items 1 and 100", Made.itemsOf(x), "1 100 -1 -1 -1 -1 ");
        DUE.is("ways to the item 100", x.ways(2, 100), 1);
    }

    private static void setTakes1To100() {
        EDGES.bounds("set(1, ..)", () -> Made.heapOf(7, 8), (x, v) -> x.set(1, v), 1, 100, OUTSIDE);
        SixNumbers x = Made.heapOf(7, 8);
        x.set(0, 1);
        x.set(1, 100);
        DUE.is("items set to 1 and 100", Made.itemsOf(x), "1 100 -1 -1 -1 -1 ");
    }

    private static void everyNumberAsAnItem() {
        for (int v = -2; v <= 103; v++) {
            boolean good = v >= 1 && v <= 100;
            SixNumbers x = new SixNumbers();
            DUE.is("item(" + v + ")", x.item(v), good ? 0 : OUTSIDE);
            DUE.is("told(10) then", x.told(10), good ? v : NONE);
            SixNumbers y = Made.heapOf(50);
            DUE.is("set(0, " + v + ")", y.set(0, v), good ? 50 : OUTSIDE);
            DUE.is("told(10) then", y.told(10), good ? v : 50);
        }
    }

    // ---- 'like numbers are told apart by their ITEMS'

    private static void likeItemsAreToldApart() {
        SixNumbers x = Made.heapOf(4, 4, 4);
        x.rule(0, PLUS);
        DUE.is("all(4) of three like ITEMS", x.all(4), 3);
        DUE.is("all(8) of three like ITEMS", x.all(8), 3);
        DUE.is("all(12) of three like ITEMS", x.all(12), 3);
        x.set(1, 5);
        DUE.is("items, one of the like ones set", Made.itemsOf(x), "4 5 4 -1 -1 -1 ");
    }

    // ---- 'x plus y; x less y, if x is greater; x times y; x over y, if y goes into x'

    private static void plusOfTheGreatest() {
        SixNumbers x = Made.ruledHeap(PLUS, 3000, 100, 100, 100, 100, 100, 100);
        DUE.is("reached(63) by plus", x.reached(63), 1);
        // Each of the six joins one of 1, 3, 5, 7, 9 places more: 3 * 5 * 7 * 9.
        DUE.is("ways(63, 600) by plus", x.ways(63, 600), 945);
        numbers("plus of 1 and 1", Made.ruledHeap(PLUS, 3000, 1, 1), 3, "2 ");
    }

    private static void lessOnlyOfAGreater() {
        DUE.is("3 less 3", Made.ruledHeap(LESS, 3000, 3, 3).reached(3), 0);
        DUE.is("100 less 100", Made.ruledHeap(LESS, 3000, 100, 100).reached(3), 0);
        numbers("4 less 3", Made.ruledHeap(LESS, 3000, 4, 3), 3, "1 ");
        numbers("4 less 3, the greater behind", Made.ruledHeap(LESS, 3000, 3, 4), 3, "1 ");
        DUE.is("ways of 4 less 3", Made.ruledHeap(LESS, 3000, 3, 4).ways(3, 1), 1);
        numbers("100 less 1", Made.ruledHeap(LESS, 3000, 1, 100), 3, "99 ");
    }

    private static void nothingByWayOf0OrBelow() {
        // 5 less (3 less 3) is none, and 3 less (3 less 5) is none; 3 less (5 less 3) by either 3.
        SixNumbers x = Made.ruledHeap(LESS, 3000, 3, 3, 5);
        numbers("by less of 3 3 5", x, 7, "1 ");
        DUE.is("ways(7, 1) by less of 3 3 5", x.ways(7, 1), 2);
        // No 9 times (3 less 3), no 9 over (3 less 3).
        DUE.is("0 times", Made.ruledHeap(LESS + TIMES, 3000, 3, 3, 9).ways(7, 9), 0);
        DUE.is("0 is no number", Made.heapOf(3, 3).ways(3, 0), OUTSIDE);
    }

    private static void timesOfTheLeastAndTheGreatest() {
        numbers("1 times 1", Made.ruledHeap(TIMES, 3000, 1, 1), 3, "1 ");
        DUE.is("ways of 1 times 1", Made.ruledHeap(TIMES, 3000, 1, 1).ways(3, 1), 1);
        numbers("30 times 100", Made.ruledHeap(TIMES, 3000, 30, 100), 3, "3000 ");
        DUE.is("31 times 97 (3007)", Made.ruledHeap(TIMES, 3000, 31, 97).reached(3), 0);
        DUE.is("100 times 100", Made.ruledHeap(TIMES, 3000, 100, 100).reached(3), 0);
        DUE.is("all six 100 by times", Made.ruledHeap(TIMES, 3000, 100, 100, 100, 100, 100, 100).reached(0), 1);
    }

    private static void overOnlyIfItGoesIn() {
        numbers("6 over 3", Made.ruledHeap(OVER, 3000, 6, 3), 3, "2 ");
        numbers("6 over 3, the greater behind", Made.ruledHeap(OVER, 3000, 3, 6), 3, "2 ");
        DUE.is("ways of 6 over 3", Made.ruledHeap(OVER, 3000, 3, 6).ways(3, 2), 1);
        DUE.is("7 over 3", Made.ruledHeap(OVER, 3000, 7, 3).reached(3), 0);
        DUE.is("5 over 3", Made.ruledHeap(OVER, 3000, 5, 3).reached(3), 0);
        numbers("3 over 3", Made.ruledHeap(OVER, 3000, 3, 3), 3, "1 ");
        DUE.is("ways of 3 over 3, either on the left", Made.ruledHeap(OVER, 3000, 3, 3).ways(3, 1), 2);
        numbers("100 over 1", Made.ruledHeap(OVER, 3000, 1, 100), 3, "100 ");
        DUE.is("100 over 99", Made.ruledHeap(OVER, 3000, 99, 100).reached(3), 0);
    }

    // ---- 'What comes is to be at most MOST (1 .. 3000; 3000 at first)'

    private static void whatComesIsAtMostMost() {
        int[][] each = {{PLUS, 20, 30, 50}, {LESS, 20, 90, 70}, {TIMES, 5, 6, 30}, {OVER, 2, 80, 40}, {PLUS, 1, 1, 2}, {TIMES, 30, 100, 3000}};
        for (int[] row : each) {
            String name = "ACTS " + row[0] + " of " + row[1] + " and " + row[2];
            numbers(name + ", MOST that", Made.ruledHeap(row[0], row[3], row[1], row[2]), 3, row[3] + " ");
            DUE.is(name + ", MOST one below", Made.ruledHeap(row[0], row[3] - 1, row[1], row[2]).reached(3), 0);
        }
        numbers("1 over 1, MOST 1", Made.ruledHeap(OVER, 1, 1, 1), 3, "1 ");
        numbers("2 less 1, MOST 1", Made.ruledHeap(LESS, 1, 1, 2), 3, "1 ");
    }

    private static void whatComesInAPartIsAtMostMost() {
        // (7 plus 7) less 5 is 9; 7 plus (7 less 5) is too, by either 7.
        DUE.is("MOST 14 as a part", Made.ruledHeap(PLUS + LESS, 14, 7, 7, 5).ways(7, 9), 3);
        DUE.is("MOST 13, 14 as a part", Made.ruledHeap(PLUS + LESS, 13, 7, 7, 5).ways(7, 9), 2);
        // 60 times 50 is 3000, over 30 it is 100; 61 times 50 would be 3050, over 25 122.
        DUE.is("3000 as a part", Made.ruledHeap(TIMES + OVER, 3000, 60, 50, 30).ways(7, 100), 2);
        DUE.is("3050 as a part", Made.ruledHeap(TIMES + OVER, 3000, 61, 50, 25).ways(7, 122), 1);
    }

    private static void anItemAboveMostIsThere() {
        SixNumbers x = Made.ruledHeap(LESS, 1, 100, 99);
        numbers("by less of 100 and 99, MOST 1", x, 0, "1 99 100 ");
        DUE.is("ways(1, 100), MOST 1", x.ways(1, 100), 1);
        DUE.is("item(100), MOST 1", x.item(100), 2);
        DUE.is("set(2, 50), MOST 1", x.set(2, 50), 100);
        DUE.is("ways(4, 50), MOST 1", x.ways(4, 50), 1);
    }

    // ---- 'A WAY for a SET of ITEMS (not empty)' .. 'of one ITEM: it is v'

    private static void oneItemIsItsNumberAlone() {
        for (int v : new int[] {1, 2, 99, 100}) {
            SixNumbers x = Made.heapOf(v);
            numbers("one ITEM " + v, x, 1, v + " ");
            DUE.is("ways to it", x.ways(1, v), 1);
            DUE.is("ways to one more", x.ways(1, v + 1), 0);
        }
        numbers("one ITEM without ACTS", Made.ruledHeap(0, 1, 7), 1, "7 ");
        DUE.is("several without ACTS", Made.ruledHeap(0, 3000, 7, 7).reached(3), 0);
    }

    // ---- '(For plus and times the left SET has the least ITEM.)'

    private static void plusAndTimesCountEachPartingOnce() {
        int[] once = {PLUS, TIMES};
        for (int act : once) {
            SixNumbers x = Made.ruledHeap(act, 3000, 2, 3, 5, 7);
            DUE.is("two ITEMS by ACTS " + act, x.ways(3, act == PLUS ? 5 : 6), 1);
            DUE.is("three ITEMS by ACTS " + act, x.ways(7, act == PLUS ? 10 : 30), 3);
            DUE.is("four ITEMS by ACTS " + act, x.ways(15, act == PLUS ? 17 : 210), 15);
        }
    }

    private static void lessAndOverMayHaveTheLeastItemOnEitherSide() {
        // To 3: (9 less 4) less 2, (9 less 2) less 4; to 7: 9 less (4 less 2). The last ITEM is on the left.
        DUE.is("ways(7, 3) by less of 2 4 9", Made.ruledHeap(LESS, 3000, 2, 4, 9).ways(7, 3), 2);
        DUE.is("ways(7, 7) by less of 2 4 9", Made.ruledHeap(LESS, 3000, 2, 4, 9).ways(7, 7), 1);
        DUE.is("1 over 1, six ITEMS", Made.ruledHeap(OVER, 3000, 1, 1, 1, 1, 1, 1).ways(63, 1), 945 * 32);
    }

    // ---- 'Two WAYS are unlike, if they differ in anything of that'

    private static void unlikeByActOrPartsOrSides() {
        DUE.is("2 plus 2, 2 times 2", Made.heapOf(2, 2).ways(3, 4), 2);
        DUE.is("4 less 2, 4 over 2", Made.heapOf(2, 4).ways(3, 2), 2);
        DUE.is("1 times 1, 1 over 1 by either side", Made.heapOf(1, 1).ways(3, 1), 3);
    }

    // ---- '(One with ACTS that are not told is none.)', promise 5: 'ACTS (a SET, 0 .. 15)'

    private static void everySetOfActs() {
        int[] comes = {9, 3, 18, 2};
        for (int acts = 0; acts <= ALL; acts++) {
            SixNumbers x = Made.heapOf(6, 3);
            DUE.is("rule(0, " + acts + ")", x.rule(0, acts), ALL);
            DUE.is("told(1) then", x.told(1), acts);
            DUE.is("reached(3) by ACTS " + acts, x.reached(3), Integer.bitCount(acts));
            for (int act = 0; act < 4; act++) DUE.is("ways(3, " + comes[act] + ") by ACTS " + acts, x.ways(3, comes[act]), acts >> act & 1);
        }
    }

    private static void anActNotToldIsInNoPart() {
        // (3 less 2) times 5; by less alone, and by times alone, there is no 5 of all three.
        DUE.is("by times and less", Made.ruledHeap(TIMES + LESS, 3000, 2, 3, 5).ways(7, 5), 1);
        DUE.is("by times", Made.ruledHeap(TIMES, 3000, 2, 3, 5).ways(7, 5), 0);
        DUE.is("by less", Made.ruledHeap(LESS, 3000, 2, 3, 5).ways(7, 5), 0);
    }

    private static void ruleTakesItsBounds() {
        EDGES.bounds("rule(0, ..)", () -> Made.heapOf(6, 3), (x, v) -> x.rule(0, v), 0, 15, OUTSIDE);
        EDGES.bounds("rule(1, ..)", () -> Made.heapOf(6, 3), (x, v) -> x.rule(1, v), 1, 3000, OUTSIDE);
        EDGES.bounds("rule(.., 7)", () -> Made.heapOf(6, 3), (x, v) -> x.rule(v, 7), 0, 1, OUTSIDE);
        EDGES.changesNothing("rule(0, 3000), MOST's alone", () -> Made.heapOf(6, 3), x -> x.rule(0, 3000), OUTSIDE);
        EDGES.changesNothing("rule(1, 0), ACTS' alone", () -> Made.heapOf(6, 3), x -> x.rule(1, 0), OUTSIDE);
        SixNumbers x = Made.ruledHeap(0, 1, 6, 3);
        DUE.is("told(1), told(2) at the least", Made.itemsOf(x) + x.told(1) + " " + x.told(2), "6 3 -1 -1 -1 -1 0 1");
        DUE.is("rule(0, 15), what it was", x.rule(0, 15), 0);
        DUE.is("rule(1, 3000), what it was", x.rule(1, 3000), 1);
    }

    private static void aRuleOutlivesTheHeap() {
        SixNumbers x = Made.ruledHeap(PLUS, 10, 6, 3);
        x.cut(0);
        x.empty();
        DUE.is("told(1), the heap cut", x.told(1), PLUS);
        DUE.is("told(2), the heap cut", x.told(2), 10);
        x.item(6);
        x.item(4);
        numbers("6 plus 4, MOST 10", x, 3, "10 ");
        x.item(5);
        DUE.is("6 plus 5, MOST 10", x.ways(5, 11), 0);
    }

    // ---- promise 3: 'ITEM k becomes v: what it was. UNKNOWN'

    private static void setKnowsTheItemsThatAreThere() {
        for (int size = 0; size <= 6; size++) {
            int there = size;
            Edges.Maker maker = () -> Made.heapOf(Arrays.copyOf(new int[] {11, 12, 13, 14, 15, 16}, there));
            for (int k = 0; k < size; k++) DUE.is("set(" + k + ", 1) of " + size, maker.make().set(k, 1), 11 + k);
            for (int none : Edges.outside(0, size - 1)) {
                EDGES.changesNothing("set(" + none + ", 1) of " + size, maker, x -> x.set(none, 1), UNKNOWN);
                EDGES.changesNothing("set(" + none + ", 0) of " + size, maker, x -> x.set(none, 0), UNKNOWN);
            }
        }
    }

    private static void setToWhatItWas() {
        EDGES.changesNothing("set(1, 8) of 7 8", () -> Made.heapOf(7, 8), x -> x.set(1, 8), 8);
    }

    // ---- promise 4: 'THE HEAP keeps its first n ITEMS: how many went. OUTSIDE'

    private static void cutTakes0ToAllThatAreThere() {
        for (int size = 0; size <= 6; size++) {
            int there = size;
            Edges.Maker maker = () -> Made.heapOf(Arrays.copyOf(new int[] {11, 12, 13, 14, 15, 16}, there));
            EDGES.bounds("cut() of " + size, maker, SixNumbers::cut, 0, size, OUTSIDE);
            EDGES.changesNothing("cut(" + size + ") of " + size, maker, x -> x.cut(there), 0);
            for (int n = 0; n <= size; n++) {
                SixNumbers x = maker.make();
                DUE.is("cut(" + n + ") of " + size, x.cut(n), size - n);
                DUE.is("told(0) then", x.told(0), n);
                DUE.is("told of the last kept", x.told(9 + n), n == 0 ? OUTSIDE : 10 + n);
                if (n < 6) DUE.is("told of the first that went", x.told(10 + n), NONE);
            }
        }
    }

    private static void whatWentIsReachedNoMore() {
        SixNumbers x = Made.heapOf(7, 20, 50);
        DUE.is("all(1000) of 7 20 50", x.all(1000), 1);
        x.cut(1);
        numbers("of 7 alone", x, 0, "7 ");
        x.item(2);
        numbers("of 7 and 2", x, 0, "2 5 7 9 14 ");
        x.cut(0);
        numbers("of none", x, 0, "");
        x.item(50);
        numbers("of 50 alone", x, 0, "50 ");
    }

    // ---- promise 6: 'NONE: none such', OUTSIDE

    private static void toldOfEveryNumber() {
        SixNumbers empty = new SixNumbers();
        SixNumbers full = Made.heapOf(1, 2, 3, 4, 5, 6);
        for (int k = 0; k < 10; k++) full.card(11 + k);
        for (int what = -3; what <= 33; what++) {
            boolean item = what >= 10 && what <= 15;
            boolean card = what >= 20 && what <= 29;
            int rest = what < 0 || what > 4 ? OUTSIDE : new int[] {0, ALL, 3000, 0, 0}[what];
            int fullRest = what < 0 || what > 4 ? OUTSIDE : new int[] {6, ALL, 3000, 10, 0}[what];
            DUE.is("told(" + what + ") of a new one", empty.told(what), item || card ? NONE : rest);
            DUE.is("told(" + what + ") of a full one", full.told(what), item || card ? what - 9 : fullRest);
        }
        for (int bad : new int[] {Edges.LEAST, Edges.GREATEST}) DUE.is("told(" + bad + ")", full.told(bad), OUTSIDE);
    }

    private static void toldOfTheLastAndTheFirstThatIsNot() {
        for (int size = 0; size < 6; size++) {
            SixNumbers x = new SixNumbers();
            for (int k = 0; k < size; k++) x.item(11 + k);
            for (int k = 0; k < size; k++) x.card(21 + k);
            if (size > 0) DUE.is("the last ITEM of " + size, x.told(9 + size), 10 + size);
            if (size > 0) DUE.is("the last CARD of " + size, x.told(19 + size), 20 + size);
            DUE.is("no ITEM more of " + size, x.told(10 + size), NONE);
            DUE.is("no CARD more of " + size, x.told(20 + size), NONE);
        }
    }

    // ---- promise 7: 'OUTSIDE (the SET 1 .. 63, of ITEMS that are there; the number 1 .. 3000)'

    private static void setsOfItemsThatAreThere() {
        for (int size = 0; size <= 6; size++) {
            int there = size;
            int whole = (1 << size) - 1;
            Edges.Maker maker = () -> Made.heapOf(Arrays.copyOf(new int[] {1, 1, 1, 1, 1, 1}, there));
            if (size > 0) EDGES.bounds("ways(.., 1) of " + size, maker, (x, set) -> x.ways(set, 1), 1, whole, OUTSIDE);
            EDGES.bounds("reached() of " + size, maker, SixNumbers::reached, 0, whole, OUTSIDE);
            EDGES.bounds("value(.., 0) of " + size, maker, (x, set) -> x.value(set, 0), 0, whole, OUTSIDE);
            SixNumbers x = maker.make();
            for (int set = -1; set <= 65; set++) {
                boolean good = set >= 1 && set <= whole;
                DUE.is("ways(" + set + ", 3000) of " + size, x.ways(set, 3000), good ? 0 : OUTSIDE);
                DUE.is("reached(" + set + ") of " + size, x.reached(set) == OUTSIDE ? 1 : 0, good || set == 0 ? 0 : 1);
                DUE.is("value(" + set + ", -1) of " + size, x.value(set, -1), good || set == 0 ? NONE : OUTSIDE);
            }
        }
    }

    private static void waysAndAllTake1To3000() {
        EDGES.bounds("ways(3, ..)", () -> Made.heapOf(100, 30), (x, v) -> x.ways(3, v), 1, 3000, OUTSIDE);
        EDGES.bounds("all()", () -> Made.heapOf(100, 30), SixNumbers::all, 1, 3000, OUTSIDE);
        EDGES.bounds("all() of none", SixNumbers::new, SixNumbers::all, 1, 3000, OUTSIDE);
        DUE.is("ways(3, 3000)", Made.heapOf(100, 30).ways(3, 3000), 1);
        DUE.is("ways(3, 1)", Made.heapOf(2, 1).ways(3, 1), 1);
        DUE.is("all(3000)", Made.heapOf(100, 30).all(3000), 1);
        DUE.is("all(1)", Made.heapOf(2, 1).all(1), 2);
        DUE.is("all(1) of none", new SixNumbers().all(1), 0);
        DUE.is("all(3000) of none", new SixNumbers().all(3000), 0);
    }

    // ---- promise 9: 'set = 0: that are REACHED at all'; promise 10: 'NONE'

    private static void reachedAtAllAndBySets() {
        SixNumbers x = Made.heapOf(6, 3);
        DUE.is("reached(0)", x.reached(0), 5);
        DUE.is("reached(1)", x.reached(1), 1);
        DUE.is("reached(3)", x.reached(3), 4);
        DUE.is("reached(0) of none", new SixNumbers().reached(0), 0);
        DUE.is("reached(0), 3000 with it", Made.heapOf(100, 30).reached(0), 5);
        DUE.is("reached(0), 3000 not with it", Made.ruledHeap(ALL, 2999, 100, 30).reached(0), 4);
        DUE.is("reached(1) of 1", Made.heapOf(1).reached(1), 1);
    }

    private static void valueFromTheLeastToTheLast() {
        SixNumbers x = Made.heapOf(100, 30);
        int[] ofBoth = {70, 130, 3000};
        int[] ofAny = {30, 70, 100, 130, 3000};
        for (int i = 0; i < ofBoth.length; i++) DUE.is("value(3, " + i + ")", x.value(3, i), ofBoth[i]);
        for (int i = 0; i < ofAny.length; i++) DUE.is("value(0, " + i + ")", x.value(0, i), ofAny[i]);
        for (int none : Edges.outside(0, 2)) EDGES.changesNothing("value(3, " + none + ")", () -> Made.heapOf(100, 30), y -> y.value(3, none), NONE);
        for (int none : Edges.outside(0, 4)) EDGES.changesNothing("value(0, " + none + ")", () -> Made.heapOf(100, 30), y -> y.value(0, none), NONE);
        for (int i : new int[] {-1, 0, 1}) DUE.is("value(0, " + i + ") of none", new SixNumbers().value(0, i), NONE);
        DUE.is("value(1, 0) of 1", Made.heapOf(1).value(1, 0), 1);
        DUE.is("value(3, 0) without ACTS", Made.ruledHeap(0, 3000, 1, 2).value(3, 0), NONE);
    }

    // ---- promise 11: 'The least number above 0 that is not REACHED'

    private static void missingFrom1On() {
        DUE.is("missing() of none", new SixNumbers().missing(), 1);
        DUE.is("missing() of 1", Made.heapOf(1).missing(), 2);
        DUE.is("missing() of 2", Made.heapOf(2).missing(), 1);
        DUE.is("missing() of 1 2", Made.heapOf(1, 2).missing(), 4);
        DUE.is("missing() of 100 30", Made.heapOf(100, 30).missing(), 1);
        SixNumbers x = Made.ruledHeap(PLUS, 63, 1, 2, 4, 8, 16, 32);
        DUE.is("missing() to MOST", x.missing(), 64);
        x.rule(1, 62);
        DUE.is("missing(), MOST one less", x.missing(), 63);
        x.cut(5);
        DUE.is("missing(), one cut", x.missing(), 32);
        x.cut(0);
        DUE.is("missing(), all cut", x.missing(), 1);
    }

    public static void main(String[] args) {
        the512thCallHolds();
        aNewHeapIsEmpty();
        aNewBoxIsEmpty();
        aNewOutIsEmpty();
        allActsAndMostAtFirst();
        theSixthItemIsTakenTheSeventhNot();
        aFullHeapCutTakesAgain();
        aFullHeapSetsAllItsItems();
        itemTakes1To100();
        setTakes1To100();
        everyNumberAsAnItem();
        likeItemsAreToldApart();
        plusOfTheGreatest();
        lessOnlyOfAGreater();
        nothingByWayOf0OrBelow();
        timesOfTheLeastAndTheGreatest();
        overOnlyIfItGoesIn();
        whatComesIsAtMostMost();
        whatComesInAPartIsAtMostMost();
        anItemAboveMostIsThere();
        oneItemIsItsNumberAlone();
        plusAndTimesCountEachPartingOnce();
        lessAndOverMayHaveTheLeastItemOnEitherSide();
        unlikeByActOrPartsOrSides();
        everySetOfActs();
        anActNotToldIsInNoPart();
        ruleTakesItsBounds();
        aRuleOutlivesTheHeap();
        setKnowsTheItemsThatAreThere();
        setToWhatItWas();
        cutTakes0ToAllThatAreThere();
        whatWentIsReachedNoMore();
        toldOfEveryNumber();
        toldOfTheLastAndTheFirstThatIsNot();
        setsOfItemsThatAreThere();
        waysAndAllTake1To3000();
        reachedAtAllAndBySets();
        valueFromTheLeastToTheLast();
        missingFrom1On();
        DUE.close();
    }
}
