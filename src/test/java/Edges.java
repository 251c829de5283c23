/** Asks a call at its bounds; what is refused there is due to change nothing that can be seen. */
final class Edges {
    /** The ends of all numbers, far behind any bound. */
    static final int LEAST = Integer.MIN_VALUE, GREATEST = Integer.MAX_VALUE;

    private static final int[] SEEN_AIMS = {1, 2, 24, 100, 3000};

    interface Maker {
        SixNumbers make();
    }

    interface Call {
        long on(SixNumbers x);
    }

    interface CallWith {
        long on(SixNumbers x, int v);
    }

    private final Due due;

    Edges(Due due) {
        this.due = due;
    }

    /** The first values that are out of these bounds on each side, and the ends of all numbers. */
    static int[] outside(int least, int greatest) {
        return new int[] {least - 1, greatest + 1, LEAST, GREATEST};
    }

    /** The last values on each side are taken, the first behind them are refused. */
    void bounds(String name, Maker maker, CallWith call, int least, int greatest, int refusal) {
        for (int v : new int[] {least, greatest}) {
            long answer = call.on(maker.make(), v);
            due.is(name + " with " + v + " is refused by " + answer, answer < SixNumbers.NONE ? 1 : 0, 0);
        }
        for (int v : outside(least, greatest)) {
            changesNothing(name + " with " + v, maker, x -> call.on(x, v), refusal);
        }
    }

    /** The answer is due, and beside an object without that call nothing is seen to differ. */
    void changesNothing(String name, Maker maker, Call call, long want) {
        SixNumbers x = maker.make();
        due.is(name, call.on(x), want);
        due.is("what is seen after " + name, seen(x), seen(maker.make()));
    }

    /** By some 300 calls, so that with those before them they stay below 512. */
    private static String seen(SixNumbers x) {
        StringBuilder text = new StringBuilder();
        for (int what = 0; what < 5; what++) text.append(x.told(what)).append(' ');
        text.append("items ").append(Made.itemsOf(x)).append("cards ").append(Made.cardsOf(x));
        text.append("out ");
        for (int i = 0; i < 34; i++) text.append(x.out(i)).append(' ');
        seeHeap(x, text);
        seeBox(x, text);
        text.append("signs ").append(x.signs(3, 24)).append(' ').append(x.signs(1, 5)).append(' ').append(x.signs(100, 0));
        return text.toString();
    }

    private static void seeHeap(SixNumbers x, StringBuilder text) {
        int whole = (1 << x.told(0)) - 1;
        text.append("reached ");
        for (int set = 0; set <= whole; set++) text.append(x.reached(set)).append(' ');
        text.append("ways ");
        for (int v = 1; v <= 12; v++) text.append(x.ways(whole, v)).append('/').append(x.all(v)).append(' ');
        text.append("values ");
        for (int i = 0; i < 12; i++) text.append(x.value(0, i)).append(' ');
        text.append("missing ").append(x.missing()).append(" aims ");
        for (int v : SEEN_AIMS) {
            for (int what = 0; what < 4; what++) text.append(x.aim(v, what)).append(' ');
        }
    }

    private static void seeBox(SixNumbers x, StringBuilder text) {
        text.append("draws ");
        for (int n = 1; n <= 4; n++) {
            for (int v : SEEN_AIMS) text.append(Made.drawsOf(x, n, v));
            text.append(x.most(n, 0)).append(' ').append(x.most(n, 1)).append(' ');
        }
        text.append("spans ").append(Made.spanOf(x, 1, 1)).append(Made.spanOf(x, 2, 3)).append(Made.spanOf(x, 3, 9));
    }
}
