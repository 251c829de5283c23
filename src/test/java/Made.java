/** Objects made for tests, and what can be read from them as text. */
final class Made {
    private Made() {
    }

    static SixNumbers heapOf(int... items) {
        SixNumbers x = new SixNumbers();
        for (int v : items) x.item(v);
        return x;
    }

    /** A heap by these ACTS and this MOST. */
    static SixNumbers ruledHeap(int acts, int most, int... items) {
        SixNumbers x = heapOf(items);
        x.rule(0, acts);
        x.rule(1, most);
        return x;
    }

    static SixNumbers boxOf(int... cards) {
        SixNumbers x = new SixNumbers();
        for (int v : cards) x.card(v);
        return x;
    }

    /** A box by these ACTS and this MOST. */
    static SixNumbers ruledBox(int acts, int most, int... cards) {
        SixNumbers x = boxOf(cards);
        x.rule(0, acts);
        x.rule(1, most);
        return x;
    }

    static String outOf(SixNumbers x) {
        StringBuilder text = new StringBuilder();
        for (int i = 0; x.out(i) != SixNumbers.NONE; i++) text.append((char) x.out(i));
        return text.toString();
    }

    static String numbersOf(SixNumbers x, int set) {
        StringBuilder text = new StringBuilder();
        for (int i = 0; x.value(set, i) != SixNumbers.NONE; i++) text.append(x.value(set, i)).append(' ');
        return text.toString();
    }

    static String itemsOf(SixNumbers x) {
        StringBuilder text = new StringBuilder();
        for (int k = 0; k < 6; k++) text.append(x.told(10 + k)).append(' ');
        return text.toString();
    }

    static String cardsOf(SixNumbers x) {
        StringBuilder text = new StringBuilder();
        for (int k = 0; k < 10; k++) text.append(x.told(20 + k)).append(' ');
        return text.toString();
    }

    static String spanOf(SixNumbers x, int n, int v) {
        StringBuilder text = new StringBuilder();
        for (int i = 0; i < n; i++) text.append(x.span(n, v, i)).append(' ');
        return text.toString();
    }

    /** The four answers of draws for n and v. */
    static String drawsOf(SixNumbers x, int n, int v) {
        StringBuilder text = new StringBuilder();
        for (int what = 0; what < 4; what++) text.append(x.draws(n, v, what)).append(' ');
        return text.toString();
    }
}
