/**
 * Six numbers, one aim: which numbers a heap is joined to and in how many ways, draws from a box
 * counted by what they reach, the first numbers that make a whole span, and signs put to a number.
 */
public final class SixNumbers {
    public static final int NONE = -1, UNKNOWN = -1001, OUTSIDE = -1002, NOT = -1003, FULL = -1004;

    private static final int ITEMS = 6;
    private static final int CARDS = 10;
    private static final int DRAWN = 4;
    private static final int SPANNING = 3;
    private static final int SPAN_NUMBERS = 12;
    private static final int SPAN_END = 100;
    private static final int MOST_END = 100;
    private static final int HIGHEST_ITEM = 100;
    private static final int HIGHEST = 3000;
    private static final int HIGHEST_SIGNED = 5040;

    private static final int PLUS = 0;
    private static final int LESS = 1;
    private static final int TIMES = 2;
    private static final int OVER = 3;
    private static final int ACTS = 4;
    private static final int ALL_ACTS = 15;
    private static final String MARKS = "+-*/";

    private final Rules rules = new Rules();
    private final Heap heap = new Heap(rules, ITEMS);
    /** A small heap for trying out draws and spans, so that THE HEAP itself stays as it is. */
    private final Heap trial = new Heap(rules, DRAWN);
    private final Box box = new Box(trial);
    private final Out bytes = new Out();
    private final Signs chain = new Signs();

    public SixNumbers() {
    }

    // ---- the heap

    public int item(int v) {
        if (isOutside(v, 1, HIGHEST_ITEM)) {
            return OUTSIDE;
        }
        if (heap.size >= ITEMS) {
            return FULL;
        }
        int k = heap.size;
        heap.place(k, v);
        return k;
    }

    public int set(int k, int v) {
        if (isOutside(k, 0, heap.size - 1)) {
            return UNKNOWN;
        }
        if (isOutside(v, 1, HIGHEST_ITEM)) {
            return OUTSIDE;
        }
        int old = heap.itemAt(k);
        heap.place(k, v);
        return old;
    }

    public int cut(int n) {
        if (isOutside(n, 0, heap.size)) {
            return OUTSIDE;
        }
        int went = heap.size - n;
        heap.shorten(n);
        return went;
    }

    public int rule(int what, int v) {
        boolean bad = what == 0 ? isOutside(v, 0, ALL_ACTS) : isOutside(v, 1, HIGHEST);
        if (isOutside(what, 0, 1) || bad) {
            return OUTSIDE;
        }
        int old = what == 0 ? rules.acts : rules.most;
        if (what == 0) {
            rules.acts = v;
        } else {
            rules.most = v;
        }
        heap.changeEverySet();
        trial.changeEverySet();
        box.forgetTallies();
        return old;
    }

    public int told(int what) {
        switch (what) {
            case 0: return heap.size;
            case 1: return rules.acts;
            case 2: return rules.most;
            case 3: return box.size;
            case 4: return bytes.length;
            default: break;
        }
        if (!isOutside(what, 10, 10 + ITEMS - 1)) {
            return heap.itemAt(what - 10);
        }
        if (!isOutside(what, 20, 20 + CARDS - 1)) {
            return box.cardAt(what - 20);
        }
        return OUTSIDE;
    }

    // ---- what it reaches

    public long ways(int set, int v) {
        if (isNoWholeSet(set) || isOutside(v, 1, HIGHEST)) {
            return OUTSIDE;
        }
        heap.refresh();
        return heap.countOf(set, v);
    }

    public long all(int v) {
        if (isOutside(v, 1, HIGHEST)) {
            return OUTSIDE;
        }
        heap.refresh();
        return heap.countOfAllSets(v);
    }

    public int reached(int set) {
        if (!heap.knows(set)) {
            return OUTSIDE;
        }
        heap.refresh();
        return heap.numbersOf(set);
    }

    public int value(int set, int i) {
        if (!heap.knows(set)) {
            return OUTSIDE;
        }
        heap.refresh();
        return heap.numberAt(set, i);
    }

    public int missing() {
        heap.refresh();
        return heap.leastNotReached();
    }

    public int aim(int v, int what) {
        if (isOutside(v, 1, HIGHEST) || isOutside(what, 0, 3)) {
            return OUTSIDE;
        }
        heap.refresh();
        switch (what) {
            case 0: return heap.reaches(v) ? 1 : 0;
            case 1: return heap.reaches(v) ? Integer.bitCount(heap.firstSet(v)) : NONE;
            case 2: return heap.firstSet(v);
            default: return heap.nearest(v);
        }
    }

    public int print(int v) {
        if (isOutside(v, 1, HIGHEST)) {
            return OUTSIDE;
        }
        heap.refresh();
        if (!heap.reaches(v)) {
            return NOT;
        }
        return printWay(heap.firstSet(v), v);
    }

    public int printOf(int set, int v) {
        if (isNoWholeSet(set) || isOutside(v, 1, HIGHEST)) {
            return OUTSIDE;
        }
        heap.refresh();
        if (heap.countOf(set, v) == 0) {
            return NOT;
        }
        return printWay(set, v);
    }

    public int out(int i) {
        return bytes.byteAt(i);
    }

    // ---- the box

    public int card(int v) {
        if (isOutside(v, 1, HIGHEST_ITEM)) {
            return OUTSIDE;
        }
        if (box.size >= CARDS) {
            return FULL;
        }
        return box.put(v);
    }

    public int empty() {
        return box.clear();
    }

    public int draws(int n, int v, int what) {
        if (isOutside(n, 1, DRAWN) || isOutside(v, 1, HIGHEST) || isOutside(what, 0, 3)) {
            return OUTSIDE;
        }
        box.countDraws(n);
        int total = box.drawsOf(n);
        int hits = box.drawsReaching(n, v);
        int common = greatestCommonDivisor(total, hits);
        switch (what) {
            case 0: return total;
            case 1: return hits;
            case 2: return common == 0 ? 0 : hits / common;
            default: return common == 0 ? 1 : total / common;
        }
    }

    public int most(int n, int what) {
        if (isOutside(n, 1, DRAWN) || isOutside(what, 0, 1)) {
            return OUTSIDE;
        }
        box.countDraws(n);
        int best = 1;
        for (int v = 2; v <= MOST_END; v++) {
            if (box.drawsReaching(n, v) > box.drawsReaching(n, best)) {
                best = v;
            }
        }
        return what == 0 ? best : box.drawsReaching(n, best);
    }

    public int span(int n, int v, int i) {
        if (isOutside(n, 1, SPANNING) || isOutside(v, 1, SPAN_END) || isOutside(i, 0, n - 1)) {
            return OUTSIDE;
        }
        return spanNumber(firstSpan(n, v), i);
    }

    // ---- signs

    public int signs(int a, int b) {
        if (isOutside(a, 1, HIGHEST_ITEM) || isOutside(b, 0, HIGHEST_SIGNED)) {
            return OUTSIDE;
        }
        return chain.stepsBetween(a, b);
    }

    // ---- what the calls share

    private static boolean isOutside(int v, int least, int greatest) {
        return v < least || v > greatest;
    }

    /** Whether a set is empty, or has items that there are not. */
    private boolean isNoWholeSet(int set) {
        return set == 0 || !heap.knows(set);
    }

    private int printWay(int set, int v) {
        bytes.length = 0;
        writeFirstWay(heap, bytes, set, v, 1);
        return bytes.length;
    }

    /** Each level parts the set, so a level deeper than there are items can't come. */
    private static void writeFirstWay(Heap heap, Out out, int set, int v, int depth) {
        if (depth > ITEMS) {
            return;
        }
        if (Integer.bitCount(set) == 1) {
            out.addNumber(v);
            return;
        }
        for (int left = 1; left < set; left++) {
            for (int act = 0; act < ACTS; act++) {
                int x = heap.leastLeftNumber(set, left, act, v);
                if (x != NONE) {
                    out.add('(');
                    writeFirstWay(heap, out, left, x, depth + 1);
                    out.add(MARKS.charAt(act));
                    writeFirstWay(heap, out, set ^ left, rightNumber(act, x, v), depth + 1);
                    out.add(')');
                    return;
                }
            }
        }
    }

    /** The y with which "x act y" comes to v; a number below 1: there is none. */
    private static int rightNumber(int act, int x, int v) {
        switch (act) {
            case PLUS: return v - x;
            case LESS: return x - v;
            case TIMES: return x > 0 && v % x == 0 ? v / x : NONE;
            default: return v > 0 && x % v == 0 ? x / v : NONE;
        }
    }

    /** For 0 and 0 it is 0. */
    private static int greatestCommonDivisor(int total, int part) {
        int common = Math.min(total, 1);
        for (int d = 2; d <= total; d++) {
            if (total % d == 0 && part % d == 0) {
                common = d;
            }
        }
        return common;
    }

    /**
     * The first set of n numbers that reaches all from 1 to v, 0 if there is none. The bit of 1 is
     * the highest, so that sets come in the order of their least numbers when bits count down.
     */
    private int firstSpan(int n, int v) {
        for (int set = (1 << SPAN_NUMBERS) - 1; set > 0; set--) {
            if (Integer.bitCount(set) == n && spans(set, v)) {
                return set;
            }
        }
        return 0;
    }

    private boolean spans(int set, int v) {
        int size = 0;
        for (int number = 1; number <= SPAN_NUMBERS; number++) {
            if (isInSpan(set, number)) {
                trial.place(size, number);
                size++;
            }
        }
        trial.shorten(size);
        trial.refresh();
        return trial.leastNotReached() > v;
    }

    private static boolean isInSpan(int set, int number) {
        return (set & (1 << (SPAN_NUMBERS - number))) != 0;
    }

    private static int spanNumber(int set, int i) {
        int before = 0;
        for (int number = 1; number <= SPAN_NUMBERS; number++) {
            if (isInSpan(set, number)) {
                if (before == i) {
                    return number;
                }
                before++;
            }
        }
        return NONE;
    }

    /** ACTS and MOST, one object for all heaps. */
    private static final class Rules {
        private int acts = ALL_ACTS;
        private int most = HIGHEST;

        boolean allow(int act) {
            return (acts & (1 << act)) != 0;
        }
    }

    /** Items, and for each set of them how many ways there are to each number. */
    private static final class Heap {
        private final Rules rules;
        private final int[] items;
        /** counts[set][v]: how many ways the set has to v. */
        private final long[][] counts;
        /** found[set]: the numbers that the set has ways to, in no order; founds[set]: how many. */
        private final int[][] found;
        private final int[] founds;
        /** holders[v]: how many sets have a way to v. */
        private final int[] holders;
        private int size = 0;
        /** The items of which the sets are to be made anew before the next look. */
        private int changed = 0;

        Heap(Rules rules, int room) {
            this.rules = rules;
            items = new int[room];
            counts = new long[1 << room][HIGHEST + 1];
            found = new int[1 << room][HIGHEST];
            founds = new int[1 << room];
            holders = new int[HIGHEST + 1];
        }

        int itemAt(int k) {
            return k < 0 || k >= size || k >= items.length ? NONE : items[k];
        }

        /** An item becomes v, or one more is put behind the last. */
        void place(int k, int v) {
            if (k < 0 || k > size || k >= items.length) {
                return;
            }
            if (k < size && items[k] == v) {
                return;
            }
            size = Math.max(size, k + 1);
            items[k] = v;
            changed |= 1 << k;
        }

        void shorten(int n) {
            for (int k = n; k < size; k++) {
                changed |= 1 << k;
            }
            size = Math.min(size, n);
        }

        void changeEverySet() {
            changed = (1 << items.length) - 1;
        }

        boolean knows(int set) {
            return set >= 0 && set < 1 << size;
        }

        /** Parts of a set are lesser numbers than the set, so they stand before it is made. */
        void refresh() {
            if (changed == 0) {
                return;
            }
            for (int set = 1; set < founds.length; set++) {
                if ((set & changed) != 0) {
                    forget(set);
                    if (knows(set)) {
                        make(set);
                    }
                }
            }
            changed = 0;
        }

        private void forget(int set) {
            for (int i = 0; i < founds[set]; i++) {
                int v = found[set][i];
                counts[set][v] = 0;
                holders[v]--;
            }
            founds[set] = 0;
        }

        private void make(int set) {
            for (int k = 0; k < items.length; k++) {
                if (set == 1 << k) {
                    add(set, items[k], 1, HIGHEST);
                    return;
                }
            }
            int least = set & -set;
            for (int left = least; left < set; left++) {
                if ((left & set) == left && (left & least) != 0) {
                    join(set, left, set ^ left);
                }
            }
        }

        /** All ways of a set that part it into these two, either one on the left where it matters. */
        private void join(int set, int one, int other) {
            boolean plus = rules.allow(PLUS);
            boolean less = rules.allow(LESS);
            boolean times = rules.allow(TIMES);
            boolean over = rules.allow(OVER);
            for (int i = 0; i < founds[one]; i++) {
                int x = found[one][i];
                for (int j = 0; j < founds[other]; j++) {
                    int y = found[other][j];
                    long count = counts[one][x] * counts[other][y];
                    if (plus) {
                        add(set, x + y, count, rules.most);
                    }
                    if (less) {
                        add(set, Math.abs(x - y), count, rules.most);
                    }
                    if (times) {
                        add(set, x * y, count, rules.most);
                    }
                    if (over && y > 0 && x % y == 0) {
                        add(set, x / y, count, rules.most);
                    }
                    if (over && x > 0 && y % x == 0) {
                        add(set, y / x, count, rules.most);
                    }
                }
            }
        }

        /** Counts ways to v, unless v is below 1 or above the bound. */
        private void add(int set, int v, long count, int bound) {
            if (v < 1 || v > bound || v > HIGHEST) {
                return;
            }
            if (counts[set][v] == 0 && founds[set] < HIGHEST) {
                found[set][founds[set]] = v;
                founds[set]++;
                holders[v]++;
            }
            counts[set][v] += count;
        }

        boolean reaches(int v) {
            return v >= 1 && v <= HIGHEST && holders[v] > 0;
        }

        long countOf(int set, int v) {
            if (set < 1 || set >= counts.length || v < 1 || v > HIGHEST) {
                return 0;
            }
            return counts[set][v];
        }

        long countOfAllSets(int v) {
            long sum = 0;
            for (int set = 1; set < counts.length; set++) {
                sum += countOf(set, v);
            }
            return sum;
        }

        /** Whether a set has a way to v; of the set 0: whether any has. */
        private boolean has(int set, int v) {
            return set == 0 ? reaches(v) : countOf(set, v) > 0;
        }

        int numbersOf(int set) {
            int sum = 0;
            for (int v = 1; v <= HIGHEST; v++) {
                if (has(set, v)) {
                    sum++;
                }
            }
            return sum;
        }

        int numberAt(int set, int i) {
            int before = 0;
            for (int v = 1; v <= HIGHEST; v++) {
                if (has(set, v)) {
                    if (before == i) {
                        return v;
                    }
                    before++;
                }
            }
            return NONE;
        }

        int leastNotReached() {
            for (int v = 1; v <= HIGHEST; v++) {
                if (!reaches(v)) {
                    return v;
                }
            }
            return HIGHEST + 1;
        }

        /** Of the sets with the fewest items that have a way to v the least one. */
        int firstSet(int v) {
            int first = NONE;
            int fewest = ITEMS + 1;
            for (int set = 1; set < counts.length; set++) {
                if (countOf(set, v) > 0 && Integer.bitCount(set) < fewest) {
                    first = set;
                    fewest = Integer.bitCount(set);
                }
            }
            return first;
        }

        int nearest(int v) {
            for (int away = 0; away <= HIGHEST; away++) {
                if (reaches(v - away)) {
                    return v - away;
                }
                if (reaches(v + away)) {
                    return v + away;
                }
            }
            return NONE;
        }

        /** The least x with which a way of the set to v may begin on the left, or NONE. */
        int leastLeftNumber(int set, int left, int act, int v) {
            boolean hasLeast = (left & set & -set) != 0;
            boolean fixedSides = act == PLUS || act == TIMES;
            if ((left & set) != left || fixedSides && !hasLeast || !rules.allow(act)) {
                return NONE;
            }
            if (left < 1 || left >= founds.length) {
                return NONE;
            }
            int least = NONE;
            for (int i = 0; i < founds[left]; i++) {
                int x = found[left][i];
                boolean fits = countOf(set ^ left, rightNumber(act, x, v)) > 0;
                if (fits && (least == NONE || x < least)) {
                    least = x;
                }
            }
            return least;
        }
    }

    /** THE OUT. */
    private static final class Out {
        /** Six items of three digits, and three bytes for each of five acts, are 33. */
        private final char[] text = new char[33];
        private int length = 0;

        void add(char sign) {
            if (length >= 0 && length < text.length) {
                text[length] = sign;
                length++;
            }
        }

        void addNumber(int v) {
            for (int unit = 1000; unit > 0; unit /= 10) {
                if (v >= unit) {
                    add((char) ('0' + v / unit % 10));
                }
            }
        }

        int byteAt(int i) {
            return i < 0 || i >= length || i >= text.length ? NONE : text[i];
        }
    }

    /** THE BOX, and how many draws reach each number. */
    private static final class Box {
        private final Heap trial;
        private final int[] cards = new int[CARDS];
        private int size = 0;
        /** tallies[n][v]: how many draws of n reach v; totals[n]: how many there are. */
        private final int[][] tallies = new int[DRAWN + 1][HIGHEST + 1];
        private final int[] totals = new int[DRAWN + 1];
        /** A bit for each n of which the draws are counted. */
        private int counted = 0;

        Box(Heap trial) {
            this.trial = trial;
        }

        int cardAt(int k) {
            return k < 0 || k >= size || k >= CARDS ? NONE : cards[k];
        }

        int put(int v) {
            int k = size;
            if (k < 0 || k >= CARDS) {
                return FULL;
            }
            cards[k] = v;
            size++;
            forgetTallies();
            return k;
        }

        int clear() {
            int old = size;
            size = 0;
            forgetTallies();
            return old;
        }

        void forgetTallies() {
            counted = 0;
        }

        int drawsOf(int n) {
            return n < 1 || n > DRAWN ? 0 : totals[n];
        }

        int drawsReaching(int n, int v) {
            if (n < 1 || n > DRAWN || v < 1 || v > HIGHEST) {
                return 0;
            }
            return tallies[n][v];
        }

        /** What is told of draws of n holds from here till the box or the rules change. */
        void countDraws(int n) {
            if (n < 1 || n > DRAWN || (counted & (1 << n)) != 0) {
                return;
            }
            counted |= 1 << n;
            totals[n] = 0;
            for (int v = 1; v <= HIGHEST; v++) {
                tallies[n][v] = 0;
            }
            for (int draw = 1; draw < 1 << size; draw++) {
                if (Integer.bitCount(draw) == n) {
                    totals[n]++;
                    countDraw(draw, tallies[n]);
                }
            }
        }

        private void countDraw(int draw, int[] tally) {
            int drawn = 0;
            for (int k = 0; k < size && k < CARDS; k++) {
                if ((draw & (1 << k)) != 0) {
                    trial.place(drawn, cards[k]);
                    drawn++;
                }
            }
            trial.shorten(drawn);
            trial.refresh();
            for (int v = 1; v <= HIGHEST && v < tally.length; v++) {
                if (trial.reaches(v)) {
                    tally[v]++;
                }
            }
        }
    }

    /** The steps from one number to all others, kept till another is asked for. */
    private static final class Signs {
        private static final int KINDS = 4;

        private final int[] steps = new int[HIGHEST_SIGNED + 1];
        private final int[] queue = new int[HIGHEST_SIGNED + 1];
        private int waiting = 0;
        private int from = NONE;

        int stepsBetween(int a, int b) {
            if (isOutside(b, 0, HIGHEST_SIGNED)) {
                return NONE;
            }
            if (a != from) {
                walkFrom(a);
            }
            return steps[b];
        }

        private void walkFrom(int a) {
            from = a;
            waiting = 0;
            for (int x = 0; x < steps.length; x++) {
                steps[x] = NONE;
            }
            arrive(a, 0);
            for (int i = 0; i < waiting && i < queue.length; i++) {
                int x = queue[i];
                for (int kind = 0; kind < KINDS; kind++) {
                    arrive(signed(kind, x), steps[x] + 1);
                }
            }
        }

        private void arrive(int x, int step) {
            if (isOutside(x, 0, HIGHEST_SIGNED) || steps[x] != NONE || waiting >= queue.length) {
                return;
            }
            steps[x] = step;
            queue[waiting] = x;
            waiting++;
        }

        /** What a sign makes of x, NONE where it can't be put. */
        private static int signed(int kind, int x) {
            switch (kind) {
                case 0: return rootOf(x);
                case 1: return x <= 7 ? productTo(x) : NONE;
                case 2: return x <= 70 ? x * (x + 1) / 2 : NONE;
                default: return x - 1;
            }
        }

        /** The root is below 128, so seven bits tell it. */
        private static int rootOf(int x) {
            int root = 0;
            for (int bit = 64; bit > 0; bit /= 2) {
                if ((root + bit) * (root + bit) <= x) {
                    root += bit;
                }
            }
            return root;
        }

        private static int productTo(int x) {
            int product = 1;
            for (int factor = 2; factor <= x; factor++) {
                product *= factor;
            }
            return product;
        }
    }
}
