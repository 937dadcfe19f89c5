import java.util.Random;

/** Promises 10, 11, 12 and 16 to 22 against the document's words, told once more by plain recursion. */
public final class PlainModelTest {
    private static final Due DUE = new Due("PlainModelTest");
    private static final String[] LAWS = {"7-2*s", "12", "l?9-a;s*3", "a>1?(t+a)*2;s=1?11;4", "s%2*5+l*3-!a", "0;9"};

    private static int lawNumber(int law, int s, int t, int a, int l) {
        int n;
        switch (law) {
            case 0: n = 7 - 2 * s; break;
            case 1: n = 12; break;
            case 2: n = l != 0 ? 9 - a : s * 3; break;
            case 3: n = a > 1 ? (t + a) * 2 : s == 1 ? 11 : 4; break;
            case 4: n = s % 2 * 5 + l * 3 - (a == 0 ? 1 : 0); break;
            default: n = 0;
        }
        return Math.max(0, Math.min(12, n));
    }

    private final LastMender x = new LastMender();
    private final Random random;
    private int people, things, forgotten, half, law;
    private final int[] skill = new int[5], fee = new int[5], way = new int[5];
    private final int[] owner = new int[6], worth = new int[6], bill = new int[6], next = new int[6];
    private int[] state = new int[6], last = new int[6], before = new int[6], age = new int[6];
    private int[] purse = new int[5], bills = new int[5], fees = new int[5], payer = new int[6];
    private final StringBuilder[] nails = new StringBuilder[6];
    private boolean inThought;
    private int z;

    private PlainModelTest(long seed) {
        random = new Random(seed * 0x9E3779B97F4A7C15L);
    }

    public static void main(String[] args) {
        for (int seed = 0; seed < 400; seed++) new PlainModelTest(seed).run();
        DUE.end();
    }

    private void run() {
        int wanted = 1 + random.nextInt(5);
        for (int p = 0; p < wanted; p++) {
            skill[p] = 1 + random.nextInt(3);
            fee[p] = random.nextInt(random.nextBoolean() ? 10 : 100);
            DUE.is("2: person", x.person(skill[p], fee[p]), people++);
            way[p] = random.nextBoolean() ? 4 : random.nextInt(4);
            DUE.is("6: way", x.mend(p, 2, way[p]), 0);
        }
        wanted = 1 + random.nextInt(6);
        for (int t = 0; t < wanted; t++) {
            owner[t] = random.nextInt(people);
            worth[t] = random.nextInt(30);
            bill[t] = random.nextInt(100);
            next[t] = t;
            state[t] = 3;
            last[t] = -2;
            before[t] = -2;
            nails[t] = new StringBuilder();
            DUE.is("3: thing", x.thing(owner[t], worth[t] * 100 + bill[t]), things++);
        }
        for (int i = 0; i < 40; i++) step();
    }

    private void step() {
        int t = random.nextInt(things), p = random.nextInt(people);
        switch (random.nextInt(12)) {
            case 0: tell(p, t); break;
            case 1: undoOrRedo(); break;
            case 2: rules(); break;
            case 3:
                law = random.nextInt(LAWS.length);
                DUE.is("9: law", Due.law(x, LAWS[law]), 1);
                break;
            case 4:
                mends(t, p);
                DUE.is("10: fix", x.fix(t * 10 + p), state[t]);
                break;
            case 5: years(); break;
            case 6: worths(t); break;
            case 7: nows(t); break;
            case 8: smiths(t, p); break;
            case 9: giftsAndDebts(t, p); break;
            case 10: ruleds(); break;
            default: ruineds(); break;
        }
        for (int i = 0; i < things; i++) {
            DUE.is("state", x.of(i, 13), state[i]);
            DUE.is("last", x.of(i, 15), last[i]);
            DUE.is("before", x.of(i, 16), before[i]);
            DUE.is("age", x.of(i, 17), age[i]);
            DUE.is("number", x.of(i, 19), lawNumber(law, state[i], i, age[i], last[i] >= 0 ? 1 : 0));
        }
        layers(t, p);
        for (int i = 0; i < people; i++) {
            DUE.is("purse", x.of(i, 3), purse[i]);
            DUE.is("bills", x.of(i, 4), bills[i]);
            DUE.is("fees", x.of(i, 5), fees[i]);
        }
    }

    private void layers(int t, int p) {
        DUE.is("7: layers", x.of(t, 18), nails[t].length());
        for (int i = 0; i < 8; i++) {
            DUE.is("13: layer", x.layer(t, i), i < nails[t].length() ? nails[t].charAt(i) - '0' : -1);
        }
        int q = random.nextInt(people), often = 0;
        for (int i = 0; i < things; i++) {
            for (int at = nails[i].indexOf("" + q + p); at >= 0; at = nails[i].indexOf("" + q + p, at + 1)) often++;
        }
        DUE.is("15: over", x.over(10 * p + q), p == q ? -1 : often);
    }

    private void tell(int p, int t) {
        int v;
        switch (random.nextInt(6)) {
            case 0: v = 1 + random.nextInt(3); DUE.is("6", x.mend(p, 0, v), skill[p]); skill[p] = v; break;
            case 1: v = random.nextInt(40); DUE.is("6", x.mend(p, 1, v), fee[p]); fee[p] = v; break;
            case 2: v = random.nextInt(5); DUE.is("6", x.mend(p, 2, v), way[p]); way[p] = v; break;
            case 3: v = random.nextInt(100); DUE.is("6", x.mend(t, 3, v), worth[t]); worth[t] = v; break;
            case 4: v = random.nextInt(100); DUE.is("6", x.mend(t, 4, v), bill[t]); bill[t] = v; break;
            default: v = random.nextInt(6); DUE.is("6", x.mend(t, 5, v), next[t]); next[t] = v; break;
        }
    }

    private void undoOrRedo() {
        if (random.nextBoolean()) x.undo();
        else x.redo();
        for (int p = 0; p < people; p++) {
            skill[p] = x.of(p, 0);
            fee[p] = x.of(p, 1);
            way[p] = x.of(p, 2);
        }
        for (int t = 0; t < things; t++) {
            worth[t] = x.of(t, 11);
            bill[t] = x.of(t, 12);
            next[t] = x.of(t, 14);
        }
    }

    private void rules() {
        int v = random.nextInt(10);
        DUE.is("5: rule", x.rule(0, v), forgotten);
        forgotten = v;
        v = random.nextInt(2);
        DUE.is("5: rule", x.rule(1, v), half);
        half = v;
    }

    private void mends(int t, int p) {
        state[t] = Math.max(state[t], skill[p]);
        before[t] = last[t];
        last[t] = p;
        age[t] = 0;
        purse[p] -= fee[p];
        fees[p] += fee[p];
        if (inThought) return;
        nails[t].append(p);
        if (nails[t].length() > 8) nails[t].deleteCharAt(0);
    }

    private int year() {
        for (int t = 0; t < things; t++) {
            int o = owner[t];
            boolean mends = way[o] == 4 ? bestMends(t, o, skill[o], fee[o], state[t], age[t], last[t], 4)
                : state[t] <= way[o];
            if (mends) mends(t, o);
        }
        for (int t = 0; t < things; t++) {
            z = z * 1103515245 + 12345;
            if ((z >>> 8) % 12 < lawNumber(law, state[t], t, age[t], last[t] >= 0 ? 1 : 0)) state[t]--;
        }
        int broke = 0;
        for (int t = 0; t < things; t++) {
            payer[t] = -2;
            if (state[t] != 0) {
                purse[owner[t]] += worth[t];
                age[t] = Math.min(99, age[t] + 1);
                continue;
            }
            broke++;
            int n = next[t];
            if (n < things && n != t && state[n] > 1) state[n]--;
            payer[t] = last[t] >= 0 && !isForgotten(age[t]) ? last[t] : owner[t];
            int rest = bill[t];
            if (last[t] >= 0 && !isForgotten(age[t]) && half == 1 && before[t] >= 0) {
                purse[before[t]] -= bill[t] / 2;
                bills[before[t]] += bill[t] / 2;
                rest -= bill[t] / 2;
            }
            purse[payer[t]] -= rest;
            bills[payer[t]] += rest;
            state[t] = 3;
            last[t] = -2;
            before[t] = -2;
            age[t] = 0;
        }
        return broke;
    }

    private boolean isForgotten(int a) {
        return forgotten > 0 && a >= forgotten;
    }

    private void years() {
        int seed = random.nextInt(), n = 1 + random.nextInt(random.nextInt(5) == 0 ? 30 : 4), broke = 0;
        z = seed;
        for (int i = 0; i < n; i++) broke += year();
        DUE.is("11: years", x.years(seed, n), broke);
        for (int t = 0; t < things; t++) DUE.is("12: paid", x.paid(t), payer[t]);
    }

    /** What o has of it over y years, times 12 to the y; first: 0 by the way, 1 leaves, 2 mends in the first year. */
    private long has(int t, int o, int k, int f, int w, int s, int a, int l, int y, int first) {
        if (y == 0) return 0;
        boolean mends = first == 2 || first == 0 && (w == 4 ? bestMends(t, o, k, f, s, a, l, y) : s <= w);
        if (mends) {
            s = Math.max(s, k);
            a = 0;
            l = o;
        }
        int worn = lawNumber(law, s, t, a, l >= 0 ? 1 : 0);
        long power = 1;
        for (int i = 1; i < y; i++) power *= 12;
        long sum = mends ? -f * power * 12 : 0;
        if (worn < 12) {
            sum += (12 - worn) * (worth[t] * power + has(t, o, k, f, w, s, Math.min(99, a + 1), l, y - 1, 0));
        }
        if (worn > 0 && s > 1) {
            sum += worn * (worth[t] * power + has(t, o, k, f, w, s - 1, Math.min(99, a + 1), l, y - 1, 0));
        } else if (worn > 0) {
            int pays = l >= 0 && !isForgotten(a) ? l : o;
            sum += worn * ((pays == o ? -bill[t] * power : 0) + has(t, o, k, f, w, 3, 0, -2, y - 1, 0));
        }
        return sum;
    }

    private boolean bestMends(int t, int o, int k, int f, int s, int a, int l, int y) {
        return y > 0 && has(t, o, k, f, 4, s, a, l, y, 2) > has(t, o, k, f, 4, s, a, l, y, 1);
    }

    private void fraction(String call, long above, long below, long n, int y) {
        long d = 1;
        for (int i = 0; i < y; i++) d *= 12;
        for (long prime = 2; prime <= 3; prime++) {
            while (n % prime == 0 && d % prime == 0) {
                n /= prime;
                d /= prime;
            }
        }
        DUE.isFraction(call, above, below, n, d);
    }

    // Deep trees of plain recursion take long: few years, but now and then.
    private int someYears() {
        int pick = random.nextInt(40);
        return pick == 0 ? 6 : pick < 5 ? 5 : random.nextInt(5);
    }

    private void worths(int t) {
        int y = someYears(), o = owner[t], ty = t * 10 + y;
        fraction("16: worth", x.worth(ty, 0, 0), x.worth(ty, 0, 1),
            has(t, o, skill[o], fee[o], way[o], state[t], age[t], last[t], y, 0), y);
        fraction("16: best", x.worth(ty, 1, 0), x.worth(ty, 1, 1),
            has(t, o, skill[o], fee[o], 4, state[t], age[t], last[t], y, 0), y);
    }

    private void nows(int t) {
        int y = someYears(), o = owner[t], ty = t * 10 + y, bits = 0, least = -2;
        for (int s = 1; s <= 3; s++) {
            if (bestMends(t, o, skill[o], fee[o], s, age[t], last[t], y)) bits |= 1 << (s - 1);
        }
        for (int k = 3; k >= 1; k--) {
            if (bestMends(t, o, k, fee[o], state[t], age[t], last[t], y)) least = k;
        }
        DUE.is("17: at once", x.now(ty, 0), bits >> (state[t] - 1) & 1);
        DUE.is("17: states", x.now(ty, 1), bits);
        DUE.is("17: good", x.now(ty, 2), least);
    }

    /** What the last one pays, times 12 to the y. */
    private long risk(int t, int s, int a, int y) {
        if (y == 0) return 0;
        int worn = lawNumber(law, s, t, a, 1), older = Math.min(99, a + 1);
        long sum = (12 - worn) * risk(t, s, older, y - 1);
        if (s > 1) return sum + worn * risk(t, s - 1, older, y - 1);
        long power = 1;
        for (int i = 1; i < y; i++) power *= 12;
        return sum + (isForgotten(a) ? 0 : worn * bill[t] * power);
    }

    private void smiths(int t, int p) {
        int y = someYears(), o = owner[t], ty = t * 10 + y, s = Math.max(state[t], skill[p]);
        if (p == o) {
            DUE.is("18: p is o", x.smith(ty, p, 0, 0), Long.MIN_VALUE);
            return;
        }
        long more = has(t, o, skill[o], fee[o], 4, s, 0, p, y, 1)
            - has(t, o, skill[o], fee[o], 4, state[t], age[t], last[t], y, 1);
        fraction("18: smith", x.smith(ty, p, 0, 0), x.smith(ty, p, 0, 1), more, y);
        fraction("18: risk", x.smith(ty, p, 1, 0), x.smith(ty, p, 1, 1), risk(t, s, 0, y), y);
    }

    private void giftsAndDebts(int t, int q) {
        int y = someYears();
        if (q != owner[t]) {
            fraction("19: gift", x.gift(t * 10 + y, q, 0), x.gift(t * 10 + y, q, 1),
                has(t, q, skill[q], fee[q], 4, state[t], age[t], last[t], y, 0), y);
        }
        y = random.nextInt(7);
        long sum = 0;
        for (int i = 0; i < things; i++) {
            if (last[i] == q) sum += risk(i, state[i], age[i], y);
        }
        fraction("20: debts", x.debts(q * 10 + y, 0), x.debts(q * 10 + y, 1), sum, y);
    }

    private int[][] standing() {
        inThought = true;
        return new int[][] {state.clone(), last.clone(), before.clone(), age.clone(), purse.clone(), bills.clone(),
            fees.clone(), payer.clone()};
    }

    private void stand(int[][] as) {
        inThought = false;
        state = as[0];
        last = as[1];
        before = as[2];
        age = as[3];
        purse = as[4];
        bills = as[5];
        fees = as[6];
        payer = as[7];
    }

    private void ruleds() {
        int seed = random.nextInt(), n = 1 + random.nextInt(random.nextInt(10) == 0 ? 20 : 4), was = forgotten, least = -1, fewest = 1000;
        for (int f = 0; f <= 9; f++) {
            int[][] as = standing();
            forgotten = f;
            z = seed;
            int broke = 0;
            for (int i = 0; i < n; i++) broke += year();
            if (broke < fewest) {
                fewest = broke;
                least = f;
            }
            stand(as);
        }
        forgotten = was;
        DUE.is("21: F", x.ruled(seed, n, 0), least);
        DUE.is("21: how many", x.ruled(seed, n, 1), fewest);
    }

    private void ruineds() {
        int seed = random.nextInt(), below = -random.nextInt(random.nextBoolean() ? 100 : 1000), year = -2, who = -2;
        int[][] as = standing();
        z = seed;
        for (int i = 1; i <= 30 && year < 0; i++) {
            year();
            for (int p = people - 1; p >= 0; p--) {
                if (purse[p] < below) {
                    year = i;
                    who = p;
                }
            }
        }
        stand(as);
        DUE.is("22: year", x.ruined(seed, below, 0), year);
        DUE.is("22: who", x.ruined(seed, below, 1), who);
    }
}
