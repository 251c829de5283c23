import java.util.ArrayList;
import java.util.Comparator;
import java.util.List;
import java.util.Random;
import java.util.Set;
import java.util.TreeSet;

/** Every way of small heaps written out one by one: their counts, and the first of them. */
public final class EveryWayTest {
    /** A way and all that it is told apart by. */
    private record Way(int left, int act, int x, int v, String text, String shape, Way one, Way other) { }

    private static final Comparator<Way> FIRST =
        Comparator.comparingInt(Way::left).thenComparingInt(Way::act).thenComparingInt(Way::x);

    private final int[] items;
    private final int acts;
    private final int most;

    private EveryWayTest(int[] items, int acts, int most) {
        this.items = items;
        this.acts = acts;
        this.most = most;
    }

    private static int comes(int act, int x, int y) {
        switch (act) {
            case 0: return x + y;
            case 1: return x > y ? x - y : -1;
            case 2: return x * y;
            default: return x % y == 0 ? x / y : -1;
        }
    }

    private List<Way> waysOf(int set) {
        List<Way> all = new ArrayList<>();
        if (Integer.bitCount(set) == 1) {
            int k = Integer.numberOfTrailingZeros(set);
            all.add(new Way(0, 0, 0, items[k], "" + items[k], "i" + k, null, null));
            return all;
        }
        for (int left = 1; left < set; left++) {
            if ((left & ~set) != 0) continue;
            for (Way one : waysOf(left)) {
                for (Way other : waysOf(set & ~left)) join(all, set, left, one, other);
            }
        }
        return all;
    }

    private void join(List<Way> all, int set, int left, Way one, Way other) {
        for (int act = 0; act < 4; act++) {
            boolean hasLeast = (left & Integer.lowestOneBit(set)) != 0;
            int v = comes(act, one.v, other.v);
            if ((acts >> act & 1) == 0 || v < 1 || v > most || act % 2 == 0 && !hasLeast) continue;
            String mark = "+-*/".substring(act, act + 1);
            all.add(new Way(left, act, one.v, v, "(" + one.text + mark + other.text + ")",
                "(" + one.shape + mark + other.shape + ")", one, other));
        }
    }

    /** The first way chooses its parts each by itself, among all ways of the part to its number. */
    private String firstText(int set, int v) {
        Way first = waysOf(set).stream().filter(w -> w.v == v).min(FIRST).orElseThrow();
        if (first.one == null) return first.text;
        return "(" + firstText(first.left, first.x) + "+-*/".charAt(first.act)
            + firstText(set & ~first.left, first.other.v) + ")";
    }

    private void compare(Due due, SixNumbers x) {
        for (int set = 1; set < 1 << items.length; set++) {
            List<Way> all = waysOf(set);
            Set<String> shapes = new TreeSet<>();
            Set<Integer> numbers = new TreeSet<>();
            for (Way w : all) {
                shapes.add(w.shape);
                numbers.add(w.v);
            }
            due.is("unlike ways of " + set, shapes.size(), all.size());
            due.is("reached(" + set + ")", x.reached(set), numbers.size());
            int asked = 0;
            for (int v : numbers) {
                due.is("ways(" + set + ", " + v + ")", x.ways(set, v), all.stream().filter(w -> w.v == v).count());
                if (asked++ % 9 == 0) compareText(due, x, set, v);
            }
        }
    }

    private void compareText(Due due, SixNumbers x, int set, int v) {
        StringBuilder got = new StringBuilder();
        x.printOf(set, v);
        for (int i = 0; x.out(i) != SixNumbers.NONE; i++) got.append((char) x.out(i));
        due.is("printOf(" + set + ", " + v + ")", got.toString(), firstText(set, v));
    }

    public static void main(String[] args) {
        Due due = new Due("EveryWayTest");
        Random random = new Random(7);
        for (int run = 0; run < 40; run++) {
            int[] items = new int[1 + random.nextInt(4)];
            SixNumbers x = new SixNumbers();
            for (int k = 0; k < items.length; k++) {
                items[k] = 1 + random.nextInt(run % 2 == 0 ? 6 : 100);
                x.item(items[k]);
            }
            int acts = run % 3 == 0 ? random.nextInt(16) : 15;
            int most = run % 4 == 0 ? 1 + random.nextInt(50) : 3000;
            x.rule(0, acts);
            x.rule(1, most);
            new EveryWayTest(items, acts, most).compare(due, x);
        }
        due.close();
    }
}
