import java.util.Random;

/** Long runs of calls, by fixed seeds, on the program and on PlainSixNumbers side by side. */
public final class AgainstPlainTest {
    /** The document promises 512; the last call may ask for the whole out, 34 bytes at most. */
    private static final int CALLS = 512 - 34;
    private static final int[] BAD = {0, -1, 101, 3001, 64, Integer.MIN_VALUE, Integer.MAX_VALUE, -1001};

    private final Random random;
    private final SixNumbers x = new SixNumbers();
    private final PlainSixNumbers plain = new PlainSixNumbers();
    private final int highestItem;
    private int made = 0;

    private AgainstPlainTest(int seed) {
        random = new Random(seed);
        highestItem = seed % 3 == 0 ? 100 : seed % 3 == 1 ? 10 : 4;
    }

    private int number(int least, int greatest) {
        return least + random.nextInt(greatest - least + 1);
    }

    private int orBad(int v) {
        return random.nextInt(25) == 0 ? BAD[random.nextInt(BAD.length)] : v;
    }

    private int itemNumber() {
        return orBad(number(1, highestItem));
    }

    private int aimNumber() {
        int kind = random.nextInt(4);
        if (kind == 0) return orBad(number(1, 3000));
        if (kind == 1) return orBad(number(1, 100));
        return orBad(number(1, 30));
    }

    private int setNumber(int least) {
        int end = 1 << plain.told(0);
        return orBad(number(least, random.nextInt(10) == 0 ? end : Math.max(least, end - 1)));
    }

    private void oneCall(Due due) {
        made++;
        switch (random.nextInt(34)) {
            case 0: case 1: { int v = itemNumber(); due.is("item(" + v + ")", x.item(v), plain.item(v)); break; }
            case 2: { int k = orBad(random.nextInt(6)), v = itemNumber(); due.is("set(" + k + ", " + v + ")", x.set(k, v), plain.set(k, v)); break; }
            case 3: { int n = orBad(random.nextInt(7)); if (random.nextInt(3) == 0) due.is("cut(" + n + ")", x.cut(n), plain.cut(n)); break; }
            case 4: { int w = orBad(random.nextInt(2)), v = orBad(ruleNumber(w)); due.is("rule(" + w + ", " + v + ")", x.rule(w, v), plain.rule(w, v)); break; }
            case 5: case 6: { int w = orBad(random.nextInt(32)); due.is("told(" + w + ")", x.told(w), plain.told(w)); break; }
            case 7: case 8: case 9: { int s = setNumber(1), v = aimNumber(); due.is("ways(" + s + ", " + v + ")", x.ways(s, v), plain.ways(s, v)); break; }
            case 10: case 11: { int v = aimNumber(); due.is("all(" + v + ")", x.all(v), plain.all(v)); break; }
            case 12: case 13: { int s = setNumber(0); due.is("reached(" + s + ")", x.reached(s), plain.reached(s)); break; }
            case 14: case 15: { int s = setNumber(0), i = orBad(random.nextInt(random.nextBoolean() ? 20 : 2000)); due.is("value(" + s + ", " + i + ")", x.value(s, i), plain.value(s, i)); break; }
            case 16: due.is("missing()", x.missing(), plain.missing()); break;
            case 17: case 18: case 19: { int v = aimNumber(), w = orBad(random.nextInt(4)); due.is("aim(" + v + ", " + w + ")", x.aim(v, w), plain.aim(v, w)); break; }
            case 20: case 21: { int v = reachable(0); due.is("print(" + v + ")", x.print(v), plain.print(v)); wholeOut(due); break; }
            case 22: case 23: { int s = setNumber(1), v = reachable(s); due.is("printOf(" + s + ", " + v + ")", x.printOf(s, v), plain.printOf(s, v)); wholeOut(due); break; }
            case 24: { int i = orBad(random.nextInt(40)); due.is("out(" + i + ")", x.out(i), plain.out(i)); break; }
            case 25: case 26: { int v = itemNumber(); due.is("card(" + v + ")", x.card(v), plain.card(v)); break; }
            case 27: if (random.nextInt(12) == 0) due.is("empty()", x.empty(), plain.empty()); break;
            case 28: case 29: { int n = orBad(number(1, 4)), v = aimNumber(), w = orBad(random.nextInt(4)); due.is("draws(" + n + ", " + v + ", " + w + ")", x.draws(n, v, w), plain.draws(n, v, w)); break; }
            case 30: { int n = orBad(number(1, 4)), w = orBad(random.nextInt(2)); due.is("most(" + n + ", " + w + ")", x.most(n, w), plain.most(n, w)); break; }
            case 31: case 32: { int n = orBad(number(1, 3)), v = orBad(number(1, 15)), i = orBad(random.nextInt(3)); due.is("span(" + n + ", " + v + ", " + i + ")", x.span(n, v, i), plain.span(n, v, i)); break; }
            default: { int a = orBad(number(1, 100)), b = orBad(number(0, random.nextBoolean() ? 100 : 5041)); due.is("signs(" + a + ", " + b + ")", x.signs(a, b), plain.signs(a, b)); break; }
        }
    }

    private int ruleNumber(int what) {
        if (what == 0) return random.nextBoolean() ? 15 : random.nextInt(16);
        return random.nextBoolean() ? 3000 : number(1, random.nextBoolean() ? 3000 : 40);
    }

    /** Mostly a number to which there is a way. */
    private int reachable(int set) {
        int count = plain.reached(set);
        return count > 0 && random.nextInt(8) > 0 ? plain.value(set, random.nextInt(count)) : aimNumber();
    }

    private void wholeOut(Due due) {
        StringBuilder got = new StringBuilder();
        StringBuilder want = new StringBuilder();
        for (int i = 0; i <= plain.told(4); i++) {
            made++;
            got.append(x.out(i)).append(' ');
            want.append(plain.out(i)).append(' ');
        }
        due.is("the bytes of the out", got.toString(), want.toString());
    }

    private static void allSigns(Due due) {
        PlainSixNumbers plain = new PlainSixNumbers();
        for (int a = 1; a <= 100; a++) {
            SixNumbers x = new SixNumbers();
            for (int b = 0; b <= 5040; b++) {
                if (b % 512 == 511) x = new SixNumbers();
                due.is("signs(" + a + ", " + b + ")", x.signs(a, b), plain.signs(a, b));
            }
        }
    }

    private static void spansUnder(int acts, int most, Due due) {
        PlainSixNumbers plain = new PlainSixNumbers();
        SixNumbers x = new SixNumbers();
        due.is("rule(0, " + acts + ")", x.rule(0, acts), plain.rule(0, acts));
        due.is("rule(1, " + most + ")", x.rule(1, most), plain.rule(1, most));
        for (int n = 1; n <= 3; n++) {
            for (int v = 1; v <= 30; v++) {
                for (int i = 0; i < n; i++) due.is("span(" + n + ", " + v + ", " + i + ")", x.span(n, v, i), plain.span(n, v, i));
            }
        }
    }

    public static void main(String[] args) {
        int runs = args.length > 0 ? Integer.parseInt(args[0]) : 60;
        Due due = new Due("AgainstPlainTest");
        for (int seed = 0; seed < runs && !due.hasWrong(); seed++) {
            AgainstPlainTest run = new AgainstPlainTest(seed);
            while (run.made < CALLS) {
                run.oneCall(due);
            }
            if (due.hasWrong()) {
                System.out.println("in the run with seed " + seed);
            }
        }
        for (int acts = 0; acts <= 15; acts++) {
            for (int most = 1; most <= 20; most++) spansUnder(acts, most, due);
            spansUnder(acts, 3000, due);
        }
        allSigns(due);
        due.close();
    }
}
