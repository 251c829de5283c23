/** The promises one by one, each with answers that were worked out by hand from the document. */
public final class PromisesTest {
    private static final int NONE = -1, UNKNOWN = -1001, OUTSIDE = -1002, NOT = -1003, FULL = -1004;
    private static final int LEAST = Integer.MIN_VALUE, GREATEST = Integer.MAX_VALUE;
    private static final Due DUE = new Due("PromisesTest");

    private static void print(SixNumbers x, int v, String want) {
        DUE.is("print(" + v + ")", x.print(v), want.length());
        DUE.is("the out", Made.outOf(x), want);
        DUE.is("told(4)", x.told(4), want.length());
    }

    private static void printOf(SixNumbers x, int set, int v, String want) {
        DUE.is("printOf(" + set + ", " + v + ")", x.printOf(set, v), want.length());
        DUE.is("the out", Made.outOf(x), want);
        DUE.is("told(4)", x.told(4), want.length());
    }

    private static void constants() {
        DUE.is("NONE", SixNumbers.NONE, NONE);
        DUE.is("UNKNOWN", SixNumbers.UNKNOWN, UNKNOWN);
        DUE.is("OUTSIDE", SixNumbers.OUTSIDE, OUTSIDE);
        DUE.is("NOT", SixNumbers.NOT, NOT);
        DUE.is("FULL", SixNumbers.FULL, FULL);
    }

    private static void promise1NewObject() {
        SixNumbers x = new SixNumbers();
        int[] due = {0, 15, 3000, 0, 0};
        for (int what = 0; what < due.length; what++) DUE.is("1: told(" + what + ")", x.told(what), due[what]);
        for (int what = 10; what <= 15; what++) DUE.is("1: told(" + what + ")", x.told(what), NONE);
        for (int what = 20; what <= 29; what++) DUE.is("1: told(" + what + ")", x.told(what), NONE);
        DUE.is("1: out(0)", x.out(0), NONE);
        DUE.is("1: reached(0)", x.reached(0), 0);
        SixNumbers other = Made.heapOf(3);
        other.rule(1, 7);
        DUE.is("1: another object", x.told(0) + x.told(2), 3000);
    }

    private static void promise2Item() {
        SixNumbers x = new SixNumbers();
        DUE.is("2: item(1)", x.item(1), 0);
        DUE.is("2: item(100)", x.item(100), 1);
        for (int bad : new int[] {0, -1, 101, LEAST, GREATEST}) DUE.is("2: item(" + bad + ")", x.item(bad), OUTSIDE);
        DUE.is("2: told(0)", x.told(0), 2);
        for (int k = 2; k < 6; k++) DUE.is("2: item(7)", x.item(7), k);
        DUE.is("2: item(7), a seventh", x.item(7), FULL);
        DUE.is("2: item(0), a seventh", x.item(0), OUTSIDE);
        DUE.is("2: told(0)", x.told(0), 6);
        DUE.is("2: told(11)", x.told(11), 100);
    }

    private static void promise3Set() {
        SixNumbers x = Made.heapOf(7, 8);
        DUE.is("3: ways(2, 8)", x.ways(2, 8), 1);
        DUE.is("3: set(1, 9)", x.set(1, 9), 8);
        DUE.is("3: set(1, 100)", x.set(1, 100), 9);
        DUE.is("3: set(1, 1)", x.set(1, 1), 100);
        DUE.is("3: set(2, 5)", x.set(2, 5), UNKNOWN);
        DUE.is("3: set(2, 0)", x.set(2, 0), UNKNOWN);
        DUE.is("3: set(-1, 5)", x.set(-1, 5), UNKNOWN);
        DUE.is("3: set(LEAST, 5)", x.set(LEAST, 5), UNKNOWN);
        DUE.is("3: set(GREATEST, 5)", x.set(GREATEST, 5), UNKNOWN);
        DUE.is("3: set(0, 0)", x.set(0, 0), OUTSIDE);
        DUE.is("3: set(0, 101)", x.set(0, 101), OUTSIDE);
        DUE.is("3: told(10)", x.told(10), 7);
        DUE.is("3: told(11)", x.told(11), 1);
        DUE.is("3: ways(2, 8)", x.ways(2, 8), 0);
        DUE.is("3: numbers", Made.numbersOf(x, 0), "1 6 7 8 ");
        DUE.is("3: set(0, 0) of none", new SixNumbers().set(0, 1), UNKNOWN);
    }

    private static void promise4Cut() {
        SixNumbers x = Made.heapOf(7, 8, 9);
        DUE.is("4: reached(4)", x.reached(4), 1);
        DUE.is("4: cut(4)", x.cut(4), OUTSIDE);
        DUE.is("4: cut(-1)", x.cut(-1), OUTSIDE);
        DUE.is("4: cut(LEAST)", x.cut(LEAST), OUTSIDE);
        DUE.is("4: cut(GREATEST)", x.cut(GREATEST), OUTSIDE);
        DUE.is("4: cut(3)", x.cut(3), 0);
        DUE.is("4: cut(1)", x.cut(1), 2);
        DUE.is("4: told(10)", x.told(10), 7);
        DUE.is("4: told(11)", x.told(11), NONE);
        DUE.is("4: numbers", Made.numbersOf(x, 0), "7 ");
        DUE.is("4: all(9)", x.all(9), 0);
        DUE.is("4: item(3)", x.item(3), 1);
        DUE.is("4: numbers", Made.numbersOf(x, 0), "3 4 7 10 21 ");
        DUE.is("4: cut(0)", x.cut(0), 2);
        DUE.is("4: cut(0)", x.cut(0), 0);
        DUE.is("4: reached(0)", x.reached(0), 0);
    }

    private static void promise5Rule() {
        SixNumbers x = Made.heapOf(6, 3);
        DUE.is("5: numbers", Made.numbersOf(x, 3), "2 3 9 18 ");
        String[] numbers = {"9 ", "3 ", "18 ", "2 "};
        int old = 15;
        for (int act = 0; act < 4; act++) {
            DUE.is("5: rule(0, " + (1 << act) + ")", x.rule(0, 1 << act), old);
            DUE.is("5: numbers", Made.numbersOf(x, 3), numbers[act]);
            old = 1 << act;
        }
        DUE.is("5: rule(0, 0)", x.rule(0, 0), 8);
        DUE.is("5: numbers", Made.numbersOf(x, 3), "");
        DUE.is("5: numbers", Made.numbersOf(x, 0), "3 6 ");
        DUE.is("5: rule(0, 16)", x.rule(0, 16), OUTSIDE);
        DUE.is("5: rule(0, -1)", x.rule(0, -1), OUTSIDE);
        DUE.is("5: rule(0, 15)", x.rule(0, 15), 0);
        DUE.is("5: rule(1, 17)", x.rule(1, 17), 3000);
        DUE.is("5: numbers", Made.numbersOf(x, 3), "2 3 9 ");
        DUE.is("5: rule(1, 9)", x.rule(1, 9), 17);
        DUE.is("5: numbers", Made.numbersOf(x, 3), "2 3 9 ");
        DUE.is("5: rule(1, 8)", x.rule(1, 8), 9);
        DUE.is("5: numbers", Made.numbersOf(x, 3), "2 3 ");
        DUE.is("5: rule(1, 1)", x.rule(1, 1), 8);
        DUE.is("5: numbers, items above MOST", Made.numbersOf(x, 0), "3 6 ");
        for (int bad : new int[] {0, 3001, -1, LEAST, GREATEST}) DUE.is("5: rule(1, " + bad + ")", x.rule(1, bad), OUTSIDE);
        for (int bad : new int[] {-1, 2, LEAST, GREATEST}) DUE.is("5: rule(" + bad + ", 5)", x.rule(bad, 5), OUTSIDE);
        DUE.is("5: told(2)", x.told(2), 1);
        DUE.is("5: rule(1, 3000)", x.rule(1, 3000), 1);
        DUE.is("5: numbers", Made.numbersOf(x, 3), "2 3 9 18 ");
        SixNumbers y = Made.heapOf(100, 30);
        DUE.is("5: ways(3, 3000)", y.ways(3, 3000), 1);
        DUE.is("5: rule(1, 2999)", y.rule(1, 2999), 3000);
        DUE.is("5: ways(3, 3000)", y.ways(3, 3000), 0);
        y.rule(1, 69);
        DUE.is("5: 100 less 30 above MOST", y.reached(3), 0);
        y.set(1, 1);
        DUE.is("5: 100 over 1 above MOST", y.reached(3), 0);
        SixNumbers z = Made.heapOf(3, 3, 7);
        z.rule(1, 8);
        DUE.is("5: a part above MOST is no part", z.ways(7, 2), 0);
    }

    private static void promise6Told() {
        SixNumbers x = Made.heapOf(11, 12, 13, 14, 15, 16);
        for (int k = 0; k < 10; k++) x.card(21 + k);
        x.rule(0, 7);
        x.rule(1, 1234);
        x.printOf(3, 23);
        int[] due = {6, 7, 1234, 10, 7};
        for (int what = 0; what < due.length; what++) DUE.is("6: told(" + what + ")", x.told(what), due[what]);
        for (int k = 0; k < 6; k++) DUE.is("6: told(" + (10 + k) + ")", x.told(10 + k), 11 + k);
        for (int k = 0; k < 10; k++) DUE.is("6: told(" + (20 + k) + ")", x.told(20 + k), 21 + k);
        for (int bad : new int[] {-1, 5, 6, 9, 16, 19, 30, 31, LEAST, GREATEST}) DUE.is("6: told(" + bad + ")", x.told(bad), OUTSIDE);
        x.cut(5);
        x.empty();
        DUE.is("6: told(14)", x.told(14), 15);
        DUE.is("6: told(15)", x.told(15), NONE);
        DUE.is("6: told(20)", x.told(20), NONE);
        DUE.is("6: told(29)", x.told(29), NONE);
    }

    private static void promise7Ways() {
        SixNumbers x = Made.heapOf(1, 1, 1);
        DUE.is("7: ways(1, 1)", x.ways(1, 1), 1);
        DUE.is("7: ways(1, 2)", x.ways(1, 2), 0);
        DUE.is("7: ways(3, 1)", x.ways(3, 1), 3);
        DUE.is("7: ways(3, 2)", x.ways(3, 2), 1);
        DUE.is("7: ways(7, 3)", x.ways(7, 3), 3);
        DUE.is("7: ways(7, 2)", x.ways(7, 2), 15);
        DUE.is("7: ways(7, 1)", x.ways(7, 1), 30);
        DUE.is("7: ways(7, 3000)", x.ways(7, 3000), 0);
        for (int bad : new int[] {0, 8, 63, -1, LEAST, GREATEST}) DUE.is("7: ways(" + bad + ", 1)", x.ways(bad, 1), OUTSIDE);
        for (int bad : new int[] {0, 3001, -1, LEAST, GREATEST}) DUE.is("7: ways(1, " + bad + ")", x.ways(1, bad), OUTSIDE);
        DUE.is("7: less and over with either on the left", Made.heapOf(3, 6).ways(3, 3) + Made.heapOf(3, 6).ways(3, 2), 2);
        SixNumbers six = Made.heapOf(1, 1, 1, 1, 1, 1);
        six.rule(0, 4);
        DUE.is("7: all six with times", six.ways(63, 1), 945);
        six.rule(0, 8);
        DUE.is("7: all six with over", six.ways(63, 1), 945 * 32);
        DUE.is("7: ways(64, 1)", six.ways(64, 1), OUTSIDE);
    }

    private static void promise8All() {
        SixNumbers x = Made.heapOf(1, 1, 1);
        DUE.is("8: all(1)", x.all(1), 3 + 3 * 3 + 30);
        DUE.is("8: all(2)", x.all(2), 3 + 15);
        DUE.is("8: all(3)", x.all(3), 3);
        DUE.is("8: all(4)", x.all(4), 0);
        DUE.is("8: all(3000)", x.all(3000), 0);
        for (int bad : new int[] {0, 3001, -1, LEAST, GREATEST}) DUE.is("8: all(" + bad + ")", x.all(bad), OUTSIDE);
        DUE.is("8: all(1) of none", new SixNumbers().all(1), 0);
    }

    private static void promise9Reached() {
        SixNumbers x = Made.heapOf(1, 1, 1);
        DUE.is("9: reached(0)", x.reached(0), 3);
        DUE.is("9: reached(4)", x.reached(4), 1);
        DUE.is("9: reached(5)", x.reached(5), 2);
        DUE.is("9: reached(7)", x.reached(7), 3);
        for (int bad : new int[] {8, 63, -1, LEAST, GREATEST}) DUE.is("9: reached(" + bad + ")", x.reached(bad), OUTSIDE);
        DUE.is("9: reached(3), 3000 the last", Made.heapOf(100, 30).reached(3), 3);
        DUE.is("9: reached(0), 3000 the last", Made.heapOf(100, 30).reached(0), 5);
        DUE.is("9: reached(0) of none", new SixNumbers().reached(0), 0);
        DUE.is("9: reached(1) of none", new SixNumbers().reached(1), OUTSIDE);
    }

    private static void promise10Value() {
        SixNumbers x = Made.heapOf(6, 3);
        int[] of3 = {2, 3, 9, 18, NONE};
        int[] ofAny = {2, 3, 6, 9, 18, NONE};
        for (int i = 0; i < of3.length; i++) DUE.is("10: value(3, " + i + ")", x.value(3, i), of3[i]);
        for (int i = 0; i < ofAny.length; i++) DUE.is("10: value(0, " + i + ")", x.value(0, i), ofAny[i]);
        for (int none : new int[] {-1, 3000, LEAST, GREATEST}) DUE.is("10: value(3, " + none + ")", x.value(3, none), NONE);
        for (int bad : new int[] {4, 64, -1, LEAST, GREATEST}) DUE.is("10: value(" + bad + ", 0)", x.value(bad, 0), OUTSIDE);
        DUE.is("10: value(0, 0) of none", new SixNumbers().value(0, 0), NONE);
        DUE.is("10: value(3, 0) of 3000", Made.heapOf(100, 30).value(3, 2), 3000);
    }

    private static void promise11Missing() {
        DUE.is("11: of none", new SixNumbers().missing(), 1);
        DUE.is("11: of 2", Made.heapOf(2).missing(), 1);
        DUE.is("11: of 1 1 1", Made.heapOf(1, 1, 1).missing(), 4);
        DUE.is("11: of 1 3", Made.heapOf(1, 3).missing(), 5);
        SixNumbers x = Made.heapOf(1, 2, 4, 8, 16, 32);
        x.rule(0, 1);
        DUE.is("11: of 1 2 4 8 16 32 by plus", x.missing(), 64);
        x.rule(1, 40);
        DUE.is("11: likewise to 40", x.missing(), 41);
    }

    private static void promise12Aim() {
        SixNumbers x = Made.heapOf(2, 2, 4);
        x.rule(0, 1);
        int[][] due = {{4, 1, 1, 4, 4}, {6, 1, 2, 5, 6}, {8, 1, 3, 7, 8}, {5, 0, NONE, NONE, 4}, {3000, 0, NONE, NONE, 8}, {1, 0, NONE, NONE, 2}};
        for (int[] row : due) {
            for (int what = 0; what < 4; what++) DUE.is("12: aim(" + row[0] + ", " + what + ")", x.aim(row[0], what), row[1 + what]);
        }
        for (int bad : new int[] {0, 3001, -1, LEAST, GREATEST}) DUE.is("12: aim(" + bad + ", 0)", x.aim(bad, 0), OUTSIDE);
        for (int bad : new int[] {4, -1, LEAST, GREATEST}) DUE.is("12: aim(1, " + bad + ")", x.aim(1, bad), OUTSIDE);
        SixNumbers y = Made.heapOf(10, 20);
        y.rule(0, 0);
        DUE.is("12: aim(15, 3)", y.aim(15, 3), 10);
        DUE.is("12: aim(16, 3)", y.aim(16, 3), 20);
        DUE.is("12: aim(3000, 3)", y.aim(3000, 3), 20);
        int[] last = {1, 2, 3, 3000};
        for (int what = 0; what < 4; what++) DUE.is("12: aim(3000, " + what + ")", Made.heapOf(100, 30).aim(3000, what), last[what]);
        SixNumbers none = new SixNumbers();
        DUE.is("12: aim(1, 0) of none", none.aim(1, 0), 0);
        for (int what = 1; what < 4; what++) DUE.is("12: aim(1, " + what + ") of none", none.aim(1, what), NONE);
    }

    private static void promise13Print() {
        print(Made.heapOf(2, 2, 4), 8, "(2*4)");
        print(Made.heapOf(2, 2, 4), 4, "4");
        print(Made.heapOf(3, 10), 7, "(10-3)");
        print(Made.heapOf(3, 12), 4, "(12/3)");
        print(Made.heapOf(2, 2), 4, "(2+2)");
        print(Made.heapOf(5, 5), 1, "(5/5)");
        print(Made.heapOf(2, 3), 6, "(2*3)");
        // By plus and times the least item is on the left: no 3+(2*5), though 3 is the lesser set.
        print(Made.heapOf(2, 3, 5), 13, "((2*5)+3)");
        print(Made.heapOf(7), 7, "7");
        print(Made.heapOf(10), 10, "10");
        print(Made.heapOf(100), 100, "100");
        SixNumbers x = Made.heapOf(100, 100, 100, 100, 100, 100);
        x.rule(0, 1);
        print(x, 600, "(100+(100+(100+(100+(100+100)))))");
        print(x, 100, "100");
        DUE.is("13: print(700)", x.print(700), NOT);
        for (int bad : new int[] {0, 3001, -1, LEAST, GREATEST}) DUE.is("13: print(" + bad + ")", x.print(bad), OUTSIDE);
        DUE.is("13: the out after refusals", Made.outOf(x), "100");
        x.cut(0);
        DUE.is("13: print(100) of none", x.print(100), NOT);
        DUE.is("13: the out, the heap cut", Made.outOf(x), "100");
    }

    private static void promise14PrintOf() {
        SixNumbers x = Made.heapOf(2, 2, 4);
        printOf(x, 7, 8, "(2+(2+4))");
        printOf(x, 7, 4, "(2+(4-2))");
        printOf(x, 3, 4, "(2+2)");
        printOf(x, 4, 4, "4");
        DUE.is("14: printOf(3, 5)", x.printOf(3, 5), NOT);
        DUE.is("14: printOf(4, 2)", x.printOf(4, 2), NOT);
        for (int bad : new int[] {0, 8, 63, -1, LEAST, GREATEST}) DUE.is("14: printOf(" + bad + ", 4)", x.printOf(bad, 4), OUTSIDE);
        for (int bad : new int[] {0, 3001, -1, LEAST, GREATEST}) DUE.is("14: printOf(4, " + bad + ")", x.printOf(4, bad), OUTSIDE);
        DUE.is("14: the out after refusals", Made.outOf(x), "4");
        SixNumbers y = Made.heapOf(1, 1);
        printOf(y, 3, 1, "(1*1)");
        y.rule(0, 8);
        printOf(y, 3, 1, "(1/1)");
        y.rule(0, 12);
        printOf(y, 3, 1, "(1*1)");
        printOf(Made.heapOf(6, 3), 3, 3, "(6-3)");
        // No item alone may be left; 3 times 7 and 7 times 3 are both 21.
        printOf(Made.heapOf(2, 5, 2, 5), 15, 21, "((5-2)*(2+5))");
    }

    private static void promise15Out() {
        SixNumbers x = Made.heapOf(3, 10);
        DUE.is("15: out(0) of none", x.out(0), NONE);
        x.print(7);
        int[] bytes = {'(', '1', '0', '-', '3', ')', NONE, NONE};
        for (int i = 0; i < bytes.length; i++) DUE.is("15: out(" + i + ")", x.out(i), bytes[i]);
        for (int none : new int[] {-1, 32, 33, 1000, LEAST, GREATEST}) DUE.is("15: out(" + none + ")", x.out(none), NONE);
        x.print(3);
        DUE.is("15: out(1)", x.out(1), NONE);
        x.set(0, 4);
        DUE.is("15: out(0)", x.out(0), '3');
    }

    private static void promise16Card() {
        SixNumbers x = new SixNumbers();
        for (int bad : new int[] {0, -1, 101, LEAST, GREATEST}) DUE.is("16: card(" + bad + ")", x.card(bad), OUTSIDE);
        DUE.is("16: card(1)", x.card(1), 0);
        DUE.is("16: card(100)", x.card(100), 1);
        for (int k = 2; k < 10; k++) DUE.is("16: card(5)", x.card(5), k);
        DUE.is("16: card(5), an eleventh", x.card(5), FULL);
        DUE.is("16: card(0), an eleventh", x.card(0), OUTSIDE);
        DUE.is("16: told(3)", x.told(3), 10);
        DUE.is("16: told(0)", x.told(0), 0);
        DUE.is("16: draws(4, 1, 0)", x.draws(4, 1, 0), 210);
        SixNumbers y = Made.boxOf(5);
        DUE.is("16: draws(1, 7, 1)", y.draws(1, 7, 1), 0);
        y.card(7);
        DUE.is("16: draws(1, 7, 1), a card more", y.draws(1, 7, 1), 1);
    }

    private static void promise17Empty() {
        SixNumbers x = Made.boxOf(5, 6, 7);
        x.item(9);
        DUE.is("17: draws(1, 5, 1)", x.draws(1, 5, 1), 1);
        DUE.is("17: empty()", x.empty(), 3);
        DUE.is("17: empty()", x.empty(), 0);
        DUE.is("17: told(20)", x.told(20), NONE);
        DUE.is("17: draws(1, 5, 0)", x.draws(1, 5, 0), 0);
        DUE.is("17: draws(1, 5, 1)", x.draws(1, 5, 1), 0);
        DUE.is("17: told(0)", x.told(0), 1);
        DUE.is("17: card(8)", x.card(8), 0);
        DUE.is("17: told(21)", x.told(21), NONE);
    }

    private static void promise18Draws() {
        SixNumbers x = Made.boxOf(1, 2, 3, 4);
        // 6: of {2,3}, {2,4} by plus, {1,2} not, {1,3} not, {1,4} not, {3,4} not.
        int[][] due = {{1, 6, 4, 0, 0, 1}, {1, 4, 4, 1, 1, 4}, {2, 6, 6, 2, 1, 3}, {2, 3000, 6, 0, 0, 1}, {4, 24, 1, 1, 1, 1}, {3, 24, 4, 1, 1, 4}};
        for (int[] row : due) {
            for (int what = 0; what < 4; what++) {
                DUE.is("18: draws(" + row[0] + ", " + row[1] + ", " + what + ")", x.draws(row[0], row[1], what), row[2 + what]);
            }
        }
        DUE.is("18: 5 of some cards of the draw alone", x.draws(3, 5, 1), 4);
        x.rule(0, 1);
        DUE.is("18: draws(4, 24, 1) by plus", x.draws(4, 24, 1), 0);
        DUE.is("18: draws(4, 10, 1) by plus", x.draws(4, 10, 1), 1);
        x.rule(1, 9);
        DUE.is("18: draws(4, 10, 1) by plus to 9", x.draws(4, 10, 1), 0);
        for (int bad : new int[] {0, 5, -1, LEAST, GREATEST}) DUE.is("18: draws(" + bad + ", 1, 0)", x.draws(bad, 1, 0), OUTSIDE);
        for (int bad : new int[] {0, 3001, -1, LEAST, GREATEST}) DUE.is("18: draws(1, " + bad + ", 0)", x.draws(1, bad, 0), OUTSIDE);
        for (int bad : new int[] {4, -1, LEAST, GREATEST}) DUE.is("18: draws(1, 1, " + bad + ")", x.draws(1, 1, bad), OUTSIDE);
        SixNumbers few = Made.boxOf(5, 5);
        int[] none = {0, 0, 0, 1};
        for (int what = 0; what < 4; what++) DUE.is("18: draws(3, 5, " + what + ") of two", few.draws(3, 5, what), none[what]);
        DUE.is("18: like cards", few.draws(1, 5, 1), 2);
        SixNumbers high = Made.boxOf(100, 30);
        DUE.is("18: draws(2, 3000, 1)", high.draws(2, 3000, 1), 1);
        high.card(7);
        DUE.is("18: draws(2, 3000, 1), counted anew", high.draws(2, 3000, 1), 1);
        few.item(50);
        DUE.is("18: the heap stays out of it", few.draws(1, 50, 1), 0);
        DUE.is("18: and stays as it is", few.reached(0), 1);
    }

    private static void promise19Most() {
        SixNumbers x = Made.boxOf(5, 7);
        int[][] due = {{1, 5, 1}, {2, 2, 1}, {3, 1, 0}, {4, 1, 0}};
        for (int[] row : due) {
            for (int what = 0; what < 2; what++) DUE.is("19: most(" + row[0] + ", " + what + ")", x.most(row[0], what), row[1 + what]);
        }
        x.card(7);
        DUE.is("19: most(1, 0)", x.most(1, 0), 7);
        DUE.is("19: most(1, 1)", x.most(1, 1), 2);
        x.rule(0, 0);
        DUE.is("19: most(2, 0) by no act", x.most(2, 0), 7);
        DUE.is("19: most(2, 1) by no act", x.most(2, 1), 3);
        DUE.is("19: most(1, 0) of 100", Made.boxOf(100).most(1, 0), 100);
        for (int bad : new int[] {0, 5, -1, LEAST, GREATEST}) DUE.is("19: most(" + bad + ", 0)", x.most(bad, 0), OUTSIDE);
        for (int bad : new int[] {2, -1, LEAST, GREATEST}) DUE.is("19: most(1, " + bad + ")", x.most(1, bad), OUTSIDE);
        // By plus: of 210 draws 84 have a card; 104 have none of the four pairs that are 99, so 106
        // reach it, and likewise 100. Of the five pairs that are 101 80 have none, but it is above 100.
        SixNumbers y = Made.boxOf(46, 47, 48, 49, 50, 51, 52, 53, 54, 55);
        y.rule(0, 1);
        DUE.is("19: most(4, 0) by plus", y.most(4, 0), 99);
        DUE.is("19: most(4, 1) by plus", y.most(4, 1), 106);
        DUE.is("19: draws(4, 100, 1)", y.draws(4, 100, 1), 106);
        DUE.is("19: draws(4, 101, 1)", y.draws(4, 101, 1), 130);
    }

    private static void span(SixNumbers x, int v, int... want) {
        int n = want.length;
        for (int i = 0; i < n; i++) DUE.is("20: span(" + n + ", " + v + ", " + i + ")", x.span(n, v, i), want[i]);
    }

    private static void promise20Span() {
        SixNumbers x = Made.heapOf(50);
        span(x, 1, 1);
        span(x, 2, NONE);
        span(x, 1, 1, 2);
        span(x, 3, 1, 2);
        span(x, 4, 1, 3);
        span(x, 5, NONE, NONE);
        span(x, 9, 1, 2, 3);
        span(x, 100, NONE, NONE, NONE);
        span(x, 2, NONE);
        x.rule(0, 1);
        span(x, 3, 1, 2);
        span(x, 4, NONE, NONE);
        span(x, 6, 1, 2, 3);
        span(x, 7, 1, 2, 4);
        span(x, 8, NONE, NONE, NONE);
        x.rule(0, 0);
        span(x, 3, 1, 2, 3);
        span(x, 4, NONE, NONE, NONE);
        x.rule(0, 2);
        span(x, 1, 1);
        // By less alone: 2 and 4 are 2, 4; 1, 2 and 4 are also 3.
        span(x, 4, 1, 2, 4);
        x.rule(0, 15);
        x.rule(1, 3);
        span(x, 3, 1, 2);
        // 4 alone is above MOST, and it is made of itself.
        span(x, 4, 1, 2, 4);
        span(x, 5, 1, 4, 5);
        span(x, 6, 4, 5, 6);
        span(x, 7, NONE, NONE, NONE);
        // By over to 4: 2/(12/6), 2, 6/2, 12/(6/2).
        x.rule(0, 8);
        x.rule(1, 4);
        span(x, 4, 2, 6, 12);
    }

    private static void promise20Wrong() {
        SixNumbers x = new SixNumbers();
        for (int bad : new int[] {0, 4, -1, LEAST, GREATEST}) DUE.is("20: span(" + bad + ", 1, 0)", x.span(bad, 1, 0), OUTSIDE);
        for (int bad : new int[] {0, 101, -1, LEAST, GREATEST}) DUE.is("20: span(3, " + bad + ", 0)", x.span(3, bad, 0), OUTSIDE);
        for (int n = 1; n <= 3; n++) {
            for (int bad : new int[] {n, -1, LEAST, GREATEST}) DUE.is("20: span(" + n + ", 1, " + bad + ")", x.span(n, 1, bad), OUTSIDE);
        }
    }

    private static void promise21Signs() {
        SixNumbers x = new SixNumbers();
        int[][] due = {
            {1, 0, 1}, {1, 1, 0}, {1, 2, NONE}, {2, 3, 1}, {3, 6, 1}, {4, 24, 1}, {7, 5040, 1}, {7, 5039, 2},
            {8, 36, 1}, {9, 3, 1}, {8, 2, 1}, {99, 9, 1}, {100, 10, 1}, {100, 99, 1}, {100, 100, 0}, {70, 2485, 1},
            // The root of 71 is 8; 8 less 1 is 7; 7 makes 5040, and then one less 2484 times.
            {71, 2556, 2487},
            // One less leads from 71 to 70, and the sum to 70 is 2485.
            {71, 2485, 2},
            // 100 10 55 7 5040; 100 10 3 1 0; 2 3 6 5 120 10 55 7 5040.
            {100, 5040, 4}, {100, 0, 4}, {2, 5040, 8}, {7, 28, 1},
        };
        for (int[] row : due) DUE.is("21: signs(" + row[0] + ", " + row[1] + ")", x.signs(row[0], row[1]), row[2]);
        for (int bad : new int[] {0, 101, -1, LEAST, GREATEST}) DUE.is("21: signs(" + bad + ", 1)", x.signs(bad, 1), OUTSIDE);
        for (int bad : new int[] {5041, -1, LEAST, GREATEST}) DUE.is("21: signs(1, " + bad + ")", x.signs(1, bad), OUTSIDE);
    }

    public static void main(String[] args) {
        constants();
        promise1NewObject();
        promise2Item();
        promise3Set();
        promise4Cut();
        promise5Rule();
        promise6Told();
        promise7Ways();
        promise8All();
        promise9Reached();
        promise10Value();
        promise11Missing();
        promise12Aim();
        promise13Print();
        promise14PrintOf();
        promise15Out();
        promise16Card();
        promise17Empty();
        promise18Draws();
        promise19Most();
        promise20Span();
        promise20Wrong();
        promise21Signs();
        DUE.close();
    }
}
