import java.util.ArrayList;
import java.util.Arrays;
import java.util.List;
import java.util.Map;
import java.util.TreeMap;
import java.util.TreeSet;

/**
 * The document once more, slow and by its words, to compare the program with. Nothing is taken
 * from the program but the numbers of the refusals, and those are written out here again.
 */
final class PlainSixNumbers {
    static final int NONE = -1, UNKNOWN = -1001, OUTSIDE = -1002, NOT = -1003, FULL = -1004;

    private List<Integer> items = new ArrayList<>();
    private final List<Integer> cards = new ArrayList<>();
    private int acts = 15;
    private int most = 3000;
    private String out = "";
    private Map<Integer, TreeMap<Integer, Long>> table = null;
    private final Map<Integer, List<TreeSet<Integer>>> drawn = new TreeMap<>();
    private List<List<Integer>> spanSets = null;
    private List<TreeSet<Integer>> spanReached = null;
    private int stepsFrom = 0;
    private int[] steps = null;

    private void rulesChange() {
        table = null;
        drawn.clear();
        spanSets = null;
    }

    int item(int v) {
        if (v < 1 || v > 100) return OUTSIDE;
        if (items.size() == 6) return FULL;
        items.add(v);
        table = null;
        return items.size() - 1;
    }

    int set(int k, int v) {
        if (k < 0 || k >= items.size()) return UNKNOWN;
        if (v < 1 || v > 100) return OUTSIDE;
        table = null;
        return items.set(k, v);
    }

    int cut(int n) {
        if (n < 0 || n > items.size()) return OUTSIDE;
        int went = items.size() - n;
        items = new ArrayList<>(items.subList(0, n));
        table = null;
        return went;
    }

    int rule(int what, int v) {
        int old;
        if (what == 0 && v >= 0 && v <= 15) {
            old = acts;
            acts = v;
        } else if (what == 1 && v >= 1 && v <= 3000) {
            old = most;
            most = v;
        } else {
            return OUTSIDE;
        }
        rulesChange();
        return old;
    }

    int told(int what) {
        if (what == 0) return items.size();
        if (what == 1) return acts;
        if (what == 2) return most;
        if (what == 3) return cards.size();
        if (what == 4) return out.length();
        if (what >= 10 && what <= 15) return what - 10 < items.size() ? items.get(what - 10) : NONE;
        if (what >= 20 && what <= 29) return what - 20 < cards.size() ? cards.get(what - 20) : NONE;
        return OUTSIDE;
    }

    // ---- ways

    /** What x ACT y comes to, 0 if it is not allowed. */
    private int comes(int act, int x, int y) {
        int v = 0;
        if ((acts >> act) % 2 == 1) {
            if (act == 0) v = x + y;
            if (act == 1 && x > y) v = x - y;
            if (act == 2) v = x * y;
            if (act == 3 && x % y == 0) v = x / y;
        }
        return v > most ? 0 : v;
    }

    private static boolean mayPart(int set, int left, int act) {
        if ((left | set) != set || left == set || left == 0) return false;
        int leastItem = 1;
        while ((set & leastItem) == 0) leastItem *= 2;
        return act == 1 || act == 3 || (left & leastItem) != 0;
    }

    private TreeMap<Integer, Long> tableOf(int set) {
        TreeMap<Integer, Long> row = new TreeMap<>();
        for (int k = 0; k < items.size(); k++) {
            if (set == 1 << k) row.put(items.get(k), 1L);
        }
        for (int left = 1; left < set; left++) {
            for (int act = 0; act < 4; act++) {
                if (!mayPart(set, left, act)) continue;
                for (Map.Entry<Integer, Long> x : table.get(left).entrySet()) {
                    for (Map.Entry<Integer, Long> y : table.get(set - left).entrySet()) {
                        int v = comes(act, x.getKey(), y.getKey());
                        if (v > 0) row.merge(v, x.getValue() * y.getValue(), Long::sum);
                    }
                }
            }
        }
        return row;
    }

    private Map<Integer, TreeMap<Integer, Long>> table() {
        if (table == null) {
            table = new TreeMap<>();
            for (int set = 1; set < 1 << items.size(); set++) table.put(set, tableOf(set));
        }
        return table;
    }

    private TreeSet<Integer> reachedNumbers() {
        TreeSet<Integer> all = new TreeSet<>();
        for (TreeMap<Integer, Long> row : table().values()) all.addAll(row.keySet());
        return all;
    }

    private boolean isSet(int set) {
        return set >= 1 && set < 1 << items.size();
    }

    long ways(int set, int v) {
        if (!isSet(set) || v < 1 || v > 3000) return OUTSIDE;
        return table().get(set).getOrDefault(v, 0L);
    }

    long all(int v) {
        if (v < 1 || v > 3000) return OUTSIDE;
        long sum = 0;
        for (TreeMap<Integer, Long> row : table().values()) sum += row.getOrDefault(v, 0L);
        return sum;
    }

    int reached(int set) {
        if (set != 0 && !isSet(set)) return OUTSIDE;
        return set == 0 ? reachedNumbers().size() : table().get(set).size();
    }

    int value(int set, int i) {
        if (set != 0 && !isSet(set)) return OUTSIDE;
        List<Integer> numbers = new ArrayList<>(set == 0 ? reachedNumbers() : table().get(set).keySet());
        return i < 0 || i >= numbers.size() ? NONE : numbers.get(i);
    }

    int missing() {
        TreeSet<Integer> all = reachedNumbers();
        int v = 1;
        while (all.contains(v)) v++;
        return v;
    }

    private int firstSet(int v) {
        for (int count = 1; count <= 6; count++) {
            for (int set = 1; set < 1 << items.size(); set++) {
                if (Integer.bitCount(set) == count && table().get(set).containsKey(v)) return set;
            }
        }
        return NONE;
    }

    int aim(int v, int what) {
        if (v < 1 || v > 3000 || what < 0 || what > 3) return OUTSIDE;
        if (what == 0) return reachedNumbers().contains(v) ? 1 : 0;
        if (what == 1) return firstSet(v) == NONE ? NONE : Integer.bitCount(firstSet(v));
        if (what == 2) return firstSet(v);
        int nearest = NONE;
        for (int w : reachedNumbers()) {
            if (nearest == NONE || Math.abs(w - v) < Math.abs(nearest - v)) nearest = w;
        }
        return nearest;
    }

    private String firstWay(int set, int v) {
        if (Integer.bitCount(set) == 1) return "" + v;
        for (int left = 1; left < set; left++) {
            for (int act = 0; act < 4; act++) {
                if (!mayPart(set, left, act)) continue;
                for (int x : table().get(left).keySet()) {
                    for (int y : table().get(set - left).keySet()) {
                        if (comes(act, x, y) == v) {
                            return "(" + firstWay(left, x) + "+-*/".charAt(act) + firstWay(set - left, y) + ")";
                        }
                    }
                }
            }
        }
        throw new IllegalStateException("no way of " + set + " to " + v);
    }

    int print(int v) {
        if (v < 1 || v > 3000) return OUTSIDE;
        if (firstSet(v) == NONE) return NOT;
        out = firstWay(firstSet(v), v);
        return out.length();
    }

    int printOf(int set, int v) {
        if (!isSet(set) || v < 1 || v > 3000) return OUTSIDE;
        if (!table().get(set).containsKey(v)) return NOT;
        out = firstWay(set, v);
        return out.length();
    }

    int out(int i) {
        return i < 0 || i >= out.length() ? NONE : out.charAt(i);
    }

    // ---- the box

    int card(int v) {
        if (v < 1 || v > 100) return OUTSIDE;
        if (cards.size() == 10) return FULL;
        cards.add(v);
        drawn.clear();
        return cards.size() - 1;
    }

    int empty() {
        int had = cards.size();
        cards.clear();
        drawn.clear();
        return had;
    }

    private TreeSet<Integer> reachedWith(List<Integer> numbers) {
        PlainSixNumbers other = new PlainSixNumbers();
        other.acts = acts;
        other.most = most;
        other.items = numbers;
        return other.reachedNumbers();
    }

    private List<TreeSet<Integer>> draws(int n) {
        if (!drawn.containsKey(n)) {
            List<TreeSet<Integer>> each = new ArrayList<>();
            for (int draw = 0; draw < 1 << cards.size(); draw++) {
                if (Integer.bitCount(draw) != n) continue;
                List<Integer> numbers = new ArrayList<>();
                for (int k = 0; k < cards.size(); k++) {
                    if ((draw >> k) % 2 == 1) numbers.add(cards.get(k));
                }
                each.add(reachedWith(numbers));
            }
            drawn.put(n, each);
        }
        return drawn.get(n);
    }

    private int drawsReaching(int n, int v) {
        int count = 0;
        for (TreeSet<Integer> reached : draws(n)) {
            if (reached.contains(v)) count++;
        }
        return count;
    }

    int draws(int n, int v, int what) {
        if (n < 1 || n > 4 || v < 1 || v > 3000 || what < 0 || what > 3) return OUTSIDE;
        int total = draws(n).size();
        int hits = drawsReaching(n, v);
        if (what == 0) return total;
        if (what == 1) return hits;
        if (total == 0) return what == 2 ? 0 : 1;
        int a = total;
        int b = hits;
        while (b > 0) {
            int rest = a % b;
            a = b;
            b = rest;
        }
        return what == 2 ? hits / a : total / a;
    }

    int most(int n, int what) {
        if (n < 1 || n > 4 || what < 0 || what > 1) return OUTSIDE;
        int highest = 0;
        for (int v = 1; v <= 100; v++) highest = Math.max(highest, drawsReaching(n, v));
        int v = 1;
        while (drawsReaching(n, v) < highest) v++;
        return what == 0 ? v : highest;
    }

    private void makeSpans() {
        spanSets = new ArrayList<>();
        spanReached = new ArrayList<>();
        for (int a = 1; a <= 12; a++) spanSets.add(List.of(a));
        for (int a = 1; a <= 12; a++) {
            for (int b = a + 1; b <= 12; b++) spanSets.add(List.of(a, b));
        }
        for (int a = 1; a <= 12; a++) {
            for (int b = a + 1; b <= 12; b++) {
                for (int c = b + 1; c <= 12; c++) spanSets.add(List.of(a, b, c));
            }
        }
        for (List<Integer> numbers : spanSets) spanReached.add(reachedWith(numbers));
    }

    int span(int n, int v, int i) {
        if (n < 1 || n > 3 || v < 1 || v > 100 || i < 0 || i >= n) return OUTSIDE;
        if (spanSets == null) makeSpans();
        for (int at = 0; at < spanSets.size(); at++) {
            if (spanSets.get(at).size() == n && spanReached.get(at).headSet(v + 1).size() == v) {
                return spanSets.get(at).get(i);
            }
        }
        return NONE;
    }

    // ---- signs

    int signs(int a, int b) {
        if (a < 1 || a > 100 || b < 0 || b > 5040) return OUTSIDE;
        int far = 1_000_000;
        if (stepsFrom != a) {
            steps = stepsOf(a, far);
            stepsFrom = a;
        }
        return steps[b] == far ? NONE : steps[b];
    }

    private static int[] stepsOf(int a, int far) {
        int[] steps = new int[5041];
        Arrays.fill(steps, far);
        steps[a] = 0;
        boolean moved = true;
        while (moved) {
            moved = false;
            for (int x = 5040; x >= 0; x--) {
                if (steps[x] == far) continue;
                int product = 1;
                int sum = 0;
                for (int f = 1; f <= Math.min(x, 70); f++) {
                    if (x <= 7) product *= f;
                    sum += f;
                }
                int[] next = {(int) Math.sqrt(x), x <= 7 ? product : x, x <= 70 ? sum : x, x > 0 ? x - 1 : x};
                for (int y : next) {
                    if (steps[y] > steps[x] + 1) {
                        steps[y] = steps[x] + 1;
                        moved = true;
                    }
                }
            }
        }
        return steps;
    }
}
