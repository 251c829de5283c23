/**
 * Every call that is refused, in heaps and boxes that are empty, begun, and full: the answer is the
 * first refusal of UNKNOWN, OUTSIDE, NOT, FULL that fits, and nothing that can be seen changes.
 */
public final class RefusedTest {
    private static final int NONE = -1, UNKNOWN = -1001, OUTSIDE = -1002, NOT = -1003, FULL = -1004;
    private static final Due DUE = new Due("RefusedTest");
    private static final Edges EDGES = new Edges(DUE);

    private final String name;
    private final Edges.Maker maker;
    private final int items;
    private final int cards;
    /** A number to which no SET of this state has a WAY. */
    private final int unreached;

    private RefusedTest(String name, Edges.Maker maker, int unreached) {
        this.name = name;
        this.maker = maker;
        this.items = maker.make().told(0);
        this.cards = maker.make().told(3);
        this.unreached = unreached;
    }

    private void refused(String call, Edges.Call how, int want) {
        EDGES.changesNothing(call + " of " + name, maker, how, want);
    }

    private void items() {
        for (int bad : Edges.outside(1, 100)) refused("item(" + bad + ")", x -> x.item(bad), OUTSIDE);
        if (items < 6) return;
        for (int good : new int[] {1, 50, 100}) refused("item(" + good + ")", x -> x.item(good), FULL);
    }

    private void sets() {
        for (int none : Edges.outside(0, items - 1)) {
            for (int v : new int[] {1, 100, 0, 101, Edges.LEAST, Edges.GREATEST}) {
                refused("set(" + none + ", " + v + ")", x -> x.set(none, v), UNKNOWN);
            }
        }
        for (int k = 0; k < items; k++) {
            int there = k;
            for (int bad : Edges.outside(1, 100)) refused("set(" + k + ", " + bad + ")", x -> x.set(there, bad), OUTSIDE);
        }
    }

    private void cutsAndRules() {
        for (int bad : Edges.outside(0, items)) refused("cut(" + bad + ")", x -> x.cut(bad), OUTSIDE);
        for (int bad : Edges.outside(0, 15)) refused("rule(0, " + bad + ")", x -> x.rule(0, bad), OUTSIDE);
        for (int bad : Edges.outside(1, 3000)) refused("rule(1, " + bad + ")", x -> x.rule(1, bad), OUTSIDE);
        for (int bad : Edges.outside(0, 1)) {
            for (int v : new int[] {7, -1}) refused("rule(" + bad + ", " + v + ")", x -> x.rule(bad, v), OUTSIDE);
        }
    }

    private void tolds() {
        for (int bad : new int[] {-1, 5, 9, 16, 19, 30, Edges.LEAST, Edges.GREATEST}) {
            refused("told(" + bad + ")", x -> x.told(bad), OUTSIDE);
        }
    }

    private void waysAndAlls() {
        int whole = (1 << items) - 1;
        for (int bad : Edges.outside(1, whole)) {
            for (int v : new int[] {1, 3000, 0}) refused("ways(" + bad + ", " + v + ")", x -> x.ways(bad, v), OUTSIDE);
        }
        for (int bad : Edges.outside(1, 3000)) {
            refused("ways(" + whole + ", " + bad + ")", x -> x.ways(whole, bad), OUTSIDE);
            refused("all(" + bad + ")", x -> x.all(bad), OUTSIDE);
        }
    }

    private void reachedAndValues() {
        for (int bad : Edges.outside(0, (1 << items) - 1)) {
            refused("reached(" + bad + ")", x -> x.reached(bad), OUTSIDE);
            for (int i : new int[] {0, -1, 3000}) refused("value(" + bad + ", " + i + ")", x -> x.value(bad, i), OUTSIDE);
        }
    }

    private void aims() {
        for (int bad : Edges.outside(1, 3000)) {
            for (int what = 0; what < 4; what++) {
                int asked = what;
                refused("aim(" + bad + ", " + what + ")", x -> x.aim(bad, asked), OUTSIDE);
            }
        }
        for (int bad : Edges.outside(0, 3)) refused("aim(1, " + bad + ")", x -> x.aim(1, bad), OUTSIDE);
    }

    private void prints() {
        int whole = (1 << items) - 1;
        for (int bad : Edges.outside(1, 3000)) {
            refused("print(" + bad + ")", x -> x.print(bad), OUTSIDE);
            refused("printOf(" + whole + ", " + bad + ")", x -> x.printOf(whole, bad), OUTSIDE);
        }
        refused("print(" + unreached + ")", x -> x.print(unreached), NOT);
        for (int bad : Edges.outside(1, whole)) {
            for (int v : new int[] {1, unreached}) refused("printOf(" + bad + ", " + v + ")", x -> x.printOf(bad, v), OUTSIDE);
        }
        for (int set = 1; set <= whole; set++) {
            int there = set;
            refused("printOf(" + set + ", " + unreached + ")", x -> x.printOf(there, unreached), NOT);
        }
    }

    private void cards() {
        for (int bad : Edges.outside(1, 100)) refused("card(" + bad + ")", x -> x.card(bad), OUTSIDE);
        if (cards < 10) return;
        for (int good : new int[] {1, 50, 100}) refused("card(" + good + ")", x -> x.card(good), FULL);
    }

    private void draws() {
        for (int bad : Edges.outside(1, 4)) {
            for (int what = 0; what < 4; what++) {
                int asked = what;
                refused("draws(" + bad + ", 1, " + what + ")", x -> x.draws(bad, 1, asked), OUTSIDE);
            }
            for (int what = 0; what < 2; what++) {
                int asked = what;
                refused("most(" + bad + ", " + what + ")", x -> x.most(bad, asked), OUTSIDE);
            }
        }
        for (int n = 1; n <= 4; n++) {
            int drawn = n;
            for (int bad : Edges.outside(1, 3000)) refused("draws(" + n + ", " + bad + ", 0)", x -> x.draws(drawn, bad, 0), OUTSIDE);
            for (int bad : Edges.outside(0, 3)) refused("draws(" + n + ", 1, " + bad + ")", x -> x.draws(drawn, 1, bad), OUTSIDE);
            for (int bad : Edges.outside(0, 1)) refused("most(" + n + ", " + bad + ")", x -> x.most(drawn, bad), OUTSIDE);
        }
    }

    private void spans() {
        for (int bad : Edges.outside(1, 3)) refused("span(" + bad + ", 1, 0)", x -> x.span(bad, 1, 0), OUTSIDE);
        for (int n = 1; n <= 3; n++) {
            int size = n;
            for (int bad : Edges.outside(1, 100)) refused("span(" + n + ", " + bad + ", 0)", x -> x.span(size, bad, 0), OUTSIDE);
            for (int v : new int[] {1, 100}) {
                for (int bad : Edges.outside(0, n - 1)) {
                    refused("span(" + n + ", " + v + ", " + bad + ")", x -> x.span(size, v, bad), OUTSIDE);
                }
            }
        }
    }

    private void signs() {
        for (int bad : Edges.outside(1, 100)) refused("signs(" + bad + ", 1)", x -> x.signs(bad, 1), OUTSIDE);
        for (int bad : Edges.outside(0, 5040)) {
            for (int a : new int[] {1, 2, 100}) refused("signs(" + a + ", " + bad + ")", x -> x.signs(a, bad), OUTSIDE);
        }
    }

    private void each() {
        DUE.is("aim(" + unreached + ", 0) of " + name, maker.make().aim(unreached, 0), 0);
        items();
        sets();
        cutsAndRules();
        tolds();
        waysAndAlls();
        reachedAndValues();
        aims();
        prints();
        cards();
        draws();
        spans();
        signs();
    }

    private static SixNumbers begun() {
        SixNumbers x = Made.heapOf(3, 5, 8);
        for (int v : new int[] {1, 2, 3, 4, 4}) x.card(v);
        x.print(24);
        return x;
    }

    /** All is looked at once, and thereafter all is changed and not looked at. */
    private static SixNumbers changedSince() {
        SixNumbers x = begun();
        x.draws(2, 6, 1);
        x.signs(3, 24);
        x.span(2, 3, 0);
        x.cut(2);
        x.item(100);
        x.set(0, 4);
        x.card(7);
        x.rule(0, 7);
        x.rule(1, 50);
        return x;
    }

    private static SixNumbers full() {
        SixNumbers x = Made.heapOf(100, 100, 100, 100, 100, 100);
        for (int v = 1; v <= 10; v++) x.card(10 * v);
        x.rule(0, 1);
        x.print(600);
        return x;
    }

    private static SixNumbers fullByAllActs() {
        SixNumbers x = Made.heapOf(1, 2, 3, 4, 5, 6);
        for (int v = 1; v <= 10; v++) x.card(v);
        x.draws(4, 24, 1);
        return x;
    }

    private static SixNumbers emptied() {
        SixNumbers x = begun();
        x.cut(0);
        x.empty();
        return x;
    }

    public static void main(String[] args) {
        new RefusedTest("a new object", SixNumbers::new, 1).each();
        new RefusedTest("one begun", RefusedTest::begun, 2999).each();
        new RefusedTest("one changed since", RefusedTest::changedSince, 3).each();
        new RefusedTest("a full one", RefusedTest::full, 2999).each();
        new RefusedTest("a full one by all ACTS", RefusedTest::fullByAllActs, 2999).each();
        new RefusedTest("an emptied one", RefusedTest::emptied, 24).each();
        DUE.close();
    }
}
