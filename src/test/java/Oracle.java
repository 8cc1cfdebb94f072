import java.math.BigInteger;
import java.util.ArrayList;
import java.util.Arrays;
import java.util.HashMap;
import java.util.HashSet;
import java.util.List;
import java.util.Map;
import java.util.Set;
import java.util.regex.Matcher;
import java.util.regex.Pattern;

/** The document once more, by other means: slow, with fractions of any size, and nothing reused. */
final class Oracle {
    static final int UNKNOWN = -1, OUTSIDE = -2, STATE = -3, FULL = -4, NONE = -9;
    private static final BigInteger MOST = BigInteger.TEN.pow(15);

    static final class M {
        int k = 2, look = NONE;
        int[][] s = new int[8][8];
        int[] c = new int[8], q = new int[8], mc = new int[4], mw = {NONE, NONE, NONE, NONE};

        Q p(int a, int b) {
            if (a != b) {
                return Q.tenths(s[a][b]);
            }
            return Q.tenths(10 - Arrays.stream(s[a]).sum());
        }

        boolean has(int i) {
            return i >= 0 && i < 4 && mw[i] != NONE;
        }
    }

    StringBuilder text = new StringBuilder();
    M[] ms = {new M(), new M(), new M()};
    int[] gen = new int[3];
    BigInteger[][] th = {first(), first(), first()};
    int[][] rules = new int[4][8];
    List<Integer> log = new ArrayList<>();
    Object[][] slots = new Object[2][];

    static BigInteger[] first() {
        return at(0);
    }

    static BigInteger[] at(int w) {
        BigInteger[] r = new BigInteger[8];
        Arrays.fill(r, BigInteger.ZERO);
        r[w] = BigInteger.ONE;
        return r;
    }

    boolean okM(int m) {
        return m >= 0 && m < 3;
    }

    boolean okW(int m, int w) {
        return okM(m) && w >= 0 && w < ms[m].k;
    }

    // ---- texts

    int write(int n, long v) {
        if (n < 1 || n > 8) {
            return OUTSIDE;
        }
        if (text.length() + n > 64) {
            return FULL;
        }
        byte[] b = java.nio.ByteBuffer.allocate(8).putLong(v).array();
        for (int i = 8 - n; i < 8; i++) {
            text.append((char) (b[i] & 255));
        }
        return text.length();
    }

    int wipe() {
        int r = text.length();
        text.setLength(0);
        return r;
    }

    private static final Pattern PART =
            Pattern.compile("\\G(?:S(\\d)(\\d)([1-9])|C(\\d)(\\d\\d)|K(\\d)([1-9])|M([0-3])(\\d)(\\d\\d)|L(\\d))");

    /** A whole text, valid or null. */
    static M parse(String t) {
        if (!t.matches("(?s)N[2-8].*")) {
            return null;
        }
        M m = new M();
        m.k = t.charAt(1) - '0';
        Set<String> seen = new HashSet<>();
        Matcher x = PART.matcher(t);
        int i = 2;
        while (i < t.length()) {
            if (!x.find(i) || x.start() != i) {
                return null;
            }
            i = x.end();
            String key;
            if (x.group(1) != null) {
                int a = Integer.parseInt(x.group(1)), b = Integer.parseInt(x.group(2)), c = Integer.parseInt(x.group(3));
                key = "S" + a + b;
                if (a >= b || b >= m.k) {
                    return null;
                }
                m.s[a][b] = c;
                if (Arrays.stream(m.s[a]).sum() > 10) {
                    return null;
                }
            } else if (x.group(4) != null) {
                int a = Integer.parseInt(x.group(4));
                key = "C" + a;
                if (a >= m.k) {
                    return null;
                }
                m.c[a] = Integer.parseInt(x.group(5));
            } else if (x.group(6) != null) {
                int a = Integer.parseInt(x.group(6));
                key = "K" + a;
                if (a >= m.k) {
                    return null;
                }
                m.q[a] = Integer.parseInt(x.group(7));
            } else if (x.group(8) != null) {
                int a = Integer.parseInt(x.group(8)), w = Integer.parseInt(x.group(9));
                key = "M" + a;
                if (w >= m.k - 1) {
                    return null;
                }
                m.mw[a] = w;
                m.mc[a] = Integer.parseInt(x.group(10));
            } else {
                key = "L";
                m.look = Integer.parseInt(x.group(11));
            }
            if (!seen.add(key)) {
                return null;
            }
        }
        return m;
    }

    private static final Map<String, Boolean> VIABLE = new HashMap<>();

    /** Whether some figures behind it (a part has at most four) make it a machine. */
    static boolean viable(String t) {
        if (t.isEmpty() || t.equals("N")) {
            return true;
        }
        return VIABLE.computeIfAbsent(t, y -> extend(y, 4));
    }

    private static boolean extend(String t, int more) {
        if (parse(t) != null) {
            return true;
        }
        for (char d = '0'; more > 0 && d <= '9'; d++) {
            if (extend(t + d, more - 1)) {
                return true;
            }
        }
        return false;
    }

    int fault() {
        String t = text.toString();
        for (int i = 1; i <= t.length(); i++) {
            if (!viable(t.substring(0, i))) {
                return i - 1;
            }
        }
        return parse(t) == null ? t.length() : NONE;
    }

    int make(int m) {
        if (!okM(m)) {
            return UNKNOWN;
        }
        M made = parse(text.toString());
        if (made == null) {
            return STATE;
        }
        ms[m] = made;
        gen[m]++;
        th[m] = first();
        return made.k;
    }

    int about(int m, int what) {
        if (!okM(m)) {
            return UNKNOWN;
        }
        int bits = 0;
        for (int i = 0; i < 4; i++) {
            bits += ms[m].has(i) ? 1 << i : 0;
        }
        return what == 0 ? ms[m].k : what == 1 ? ms[m].look : what == 2 ? bits : OUTSIDE;
    }

    int worn(int m, int w, int what) {
        if (!okW(m, w)) {
            return UNKNOWN;
        }
        return what == 0 ? ms[m].c[w] : what == 1 ? ms[m].q[w] : what == 2 ? Arrays.stream(ms[m].s[w]).sum() : OUTSIDE;
    }

    int goes(int m, int w, int o) {
        if (!okW(m, w) || !okW(m, o)) {
            return UNKNOWN;
        }
        return (int) ms[m].p(w, o).times(Q.of(10)).told(true);
    }

    int mending(int m, int i, int what) {
        if (!okM(m) || !ms[m].has(i)) {
            return UNKNOWN;
        }
        return what == 0 ? ms[m].mc[i] : what == 1 ? ms[m].mw[i] : OUTSIDE;
    }

    // ---- thoughts

    /** In least terms, or null with why[0] set. */
    static BigInteger[] least(BigInteger[] w, int[] why) {
        BigInteger g = BigInteger.ZERO;
        for (BigInteger x : w) {
            g = g.gcd(x);
        }
        if (g.signum() == 0) {
            why[0] = STATE;
            return null;
        }
        BigInteger[] r = new BigInteger[8];
        for (int i = 0; i < 8; i++) {
            r[i] = w[i].divide(g);
            if (r[i].compareTo(MOST) > 0) {
                why[0] = FULL;
                return null;
            }
        }
        return r;
    }

    static BigInteger[] dayOn(M m, BigInteger[] w, int[] why) {
        BigInteger[] r = at(0);
        r[0] = BigInteger.ZERO;
        for (int a = 0; a < m.k; a++) {
            for (int b = 0; b < m.k; b++) {
                r[b] = r[b].add(w[a].multiply(BigInteger.valueOf(m.p(a, b).times(Q.of(10)).told(true))));
            }
        }
        return least(r, why);
    }

    static BigInteger[] knockOn(M m, BigInteger[] w, boolean knock, int[] why) {
        BigInteger[] r = w.clone();
        for (int a = 0; a < 8; a++) {
            r[a] = r[a].multiply(BigInteger.valueOf(knock ? m.q[a] : 10 - m.q[a]));
        }
        return least(r, why);
    }

    int day(int m) {
        if (!okM(m)) {
            return UNKNOWN;
        }
        int[] why = new int[1];
        BigInteger[] r = dayOn(ms[m], th[m], why);
        if (r == null) {
            return why[0];
        }
        th[m] = r;
        return 1;
    }

    int hear(int m, boolean knock) {
        if (!okM(m)) {
            return UNKNOWN;
        }
        int[] why = new int[1];
        BigInteger[] r = knockOn(ms[m], th[m], knock, why);
        if (r == null) {
            return why[0];
        }
        th[m] = r;
        return 1;
    }

    int mend(int m, int i) {
        if (!okM(m) || !ms[m].has(i)) {
            return UNKNOWN;
        }
        th[m] = at(ms[m].mw[i]);
        return ms[m].mw[i];
    }

    int look(int m, int w) {
        if (!okW(m, w)) {
            return UNKNOWN;
        }
        if (ms[m].look == NONE || th[m][w].signum() == 0) {
            return STATE;
        }
        th[m] = at(w);
        return 1;
    }

    long weight(int m, int w) {
        return okW(m, w) ? th[m][w].longValueExact() : UNKNOWN;
    }

    BigInteger sum(int m) {
        return Arrays.stream(th[m]).reduce(BigInteger.ZERO, BigInteger::add);
    }

    long chance(int m, int w, boolean upper) {
        return okW(m, w) ? Q.of(th[m][w], sum(m)).told(upper) : UNKNOWN;
    }

    long knock(int m, boolean upper) {
        if (!okM(m)) {
            return UNKNOWN;
        }
        Q r = Q.ZERO;
        for (int a = 0; a < 8; a++) {
            r = r.plus(Q.of(th[m][a], sum(m)).times(Q.tenths(ms[m].q[a])));
        }
        return r.told(upper);
    }

    int likely(int m) {
        if (!okM(m)) {
            return UNKNOWN;
        }
        int r = 7;
        for (int a = 7; a >= 0; a--) {
            r = th[m][a].compareTo(th[m][r]) >= 0 ? a : r;
        }
        return r;
    }

    // ---- rules

    static Q lifeOf(M m, int w) {
        if (w == m.k - 1) {
            return Q.ZERO;
        }
        Q stay = m.p(w, w), sum = Q.ONE;
        if (stay.compareTo(Q.ONE) == 0) {
            return null;
        }
        for (int b = w + 1; b < m.k; b++) {
            if (m.s[w][b] > 0) {
                Q l = lifeOf(m, b);
                if (l == null) {
                    return null;
                }
                sum = sum.plus(m.p(w, b).times(l));
            }
        }
        return sum.over(Q.ONE.minus(stay));
    }

    long life(int m, int w, boolean upper) {
        if (!okW(m, w)) {
            return UNKNOWN;
        }
        Q l = lifeOf(ms[m], w);
        return l == null ? NONE : l.told(upper);
    }

    int rule(int r, int w, int act) {
        if (r < 0 || r > 3 || w < 0 || w > 7) {
            return UNKNOWN;
        }
        if (act < 0 || act > 4) {
            return OUTSIDE;
        }
        int was = rules[r][w];
        rules[r][w] = act;
        return was;
    }

    /** The mean cost a day, by gain and relative values from WEAR 0; null if it is not told. */
    static Q costOf(M m, int[] acts) {
        int[] to = new int[m.k];
        Q[] price = new Q[m.k];
        for (int w = 0; w < m.k; w++) {
            if (acts[w] > 0 && !m.has(acts[w] - 1)) {
                return null;
            }
            to[w] = acts[w] == 0 ? w : m.mw[acts[w] - 1];
            price[w] = Q.of(m.c[to[w]] + (acts[w] == 0 ? 0 : m.mc[acts[w] - 1]));
        }
        List<Set<Integer>> reach = new ArrayList<>();
        for (int w = 0; w < m.k; w++) {
            Set<Integer> r = new HashSet<>();
            walk(m, to, w, r);
            reach.add(r);
        }
        Set<Integer> from0 = new HashSet<>(reach.get(0));
        from0.add(0);
        Set<Set<Integer>> closed = new HashSet<>();
        for (int w : from0) {
            boolean back = reach.get(w).contains(w);
            for (int v : reach.get(w)) {
                back &= reach.get(v).contains(w);
            }
            if (back) {
                closed.add(reach.get(w));
            }
        }
        return closed.size() == 1 ? gain(m, to, price, new ArrayList<>(closed.iterator().next())) : null;
    }

    private static void walk(M m, int[] to, int w, Set<Integer> r) {
        for (int b = 0; b < m.k; b++) {
            if (!m.p(to[w], b).isZero() && r.add(b)) {
                walk(m, to, b, r);
            }
        }
    }

    /** h(i) + g = price(i) + sum p h, with h of the first member 0: unknowns g and the other h. */
    private static Q gain(M m, int[] to, Q[] price, List<Integer> c) {
        int n = c.size();
        Q[][] a = new Q[n][n + 1];
        for (int i = 0; i < n; i++) {
            a[i][0] = Q.ONE;
            for (int j = 1; j < n; j++) {
                a[i][j] = (i == j ? Q.ONE : Q.ZERO).minus(m.p(to[c.get(i)], c.get(j)));
            }
            a[i][n] = price[c.get(i)];
        }
        for (int k = 0; k < n; k++) {
            int pr = k;
            while (a[pr][k].isZero()) {
                pr++;
            }
            Q[] t = a[pr];
            a[pr] = a[k];
            a[k] = t;
            for (int i = 0; i < n; i++) {
                if (i != k && !a[i][k].isZero()) {
                    Q f = a[i][k].over(a[k][k]);
                    for (int j = k; j <= n; j++) {
                        a[i][j] = a[i][j].minus(f.times(a[k][j]));
                    }
                }
            }
        }
        return a[0][n].over(a[0][0]);
    }

    boolean okR(int r) {
        return r >= 0 && r < 4;
    }

    long cost(int m, int r, boolean upper) {
        if (!okM(m) || !okR(r)) {
            return UNKNOWN;
        }
        Q c = costOf(ms[m], rules[r]);
        return c == null ? STATE : c.told(upper);
    }

    int which(int m, int r, int o) {
        if (!okM(m) || !okR(r) || !okR(o)) {
            return UNKNOWN;
        }
        Q c = costOf(ms[m], rules[r]), d = costOf(ms[m], rules[o]);
        if (c == null || d == null) {
            return STATE;
        }
        return c.compareTo(d) < 0 ? 1 : c.compareTo(d) > 0 ? 2 : 3;
    }

    Q bestFound;

    int best(int m) {
        bestFound = null;
        if (!okM(m)) {
            return UNKNOWN;
        }
        M x = ms[m];
        if (Math.pow(1 + Integer.bitCount(about(m, 2)), x.k) > 1024.5) {
            return STATE;
        }
        int end = (int) Math.round(Math.pow(5, x.k)), found = NONE;
        for (int n = 0; n < end; n++) {
            int[] acts = actsOf(n, x.k);
            boolean there = true;
            for (int w = 0; w < x.k; w++) {
                there &= acts[w] == 0 || x.has(acts[w] - 1);
            }
            Q c = there ? costOf(x, acts) : null;
            if (c != null && (bestFound == null || c.compareTo(bestFound) < 0)) {
                bestFound = c;
                found = n;
            }
        }
        return found;
    }

    static int[] actsOf(int n, int k) {
        String digits = Integer.toString(n, 5);
        while (digits.length() < k) {
            digits = "0" + digits;
        }
        int[] acts = new int[8];
        for (int w = 0; w < k; w++) {
            acts[w] = digits.charAt(w) - '0';
        }
        return acts;
    }

    long bestCost(int m, boolean upper) {
        int b = best(m);
        return b < 0 ? b : bestFound.told(upper);
    }

    int put(int m, int r, int n) {
        if (!okM(m) || !okR(r)) {
            return UNKNOWN;
        }
        if (n < 0 || n >= Math.round(Math.pow(5, ms[m].k))) {
            return OUTSIDE;
        }
        rules[r] = actsOf(n, ms[m].k);
        return (int) Arrays.stream(rules[r]).filter(a -> a != 0).count();
    }

    Q barOf(M m, int i, int b) {
        int[] acts = new int[8];
        Arrays.fill(acts, b, m.k, i + 1);
        return costOf(m, acts);
    }

    long barCost(int m, int i, int b, boolean upper) {
        if (!okM(m) || !ms[m].has(i)) {
            return UNKNOWN;
        }
        if (b < 1 || b > ms[m].k - 1) {
            return OUTSIDE;
        }
        Q c = barOf(ms[m], i, b);
        return c == null ? STATE : c.told(upper);
    }

    int bar(int m) {
        if (!okM(m)) {
            return UNKNOWN;
        }
        int found = NONE;
        Q least = null;
        for (int n = 39; n >= 0; n--) {
            int b = n % 10;
            if (ms[m].has(n / 10) && b >= 1 && b < ms[m].k) {
                Q c = barOf(ms[m], n / 10, b);
                if (c != null && (least == null || c.compareTo(least) <= 0)) {
                    least = c;
                    found = n;
                }
            }
        }
        return found;
    }

    // ---- some days ahead

    int firstAct;

    Q planFrom(M m, int w, int t, int days, int p, int f) {
        if (t == days) {
            return Q.ZERO;
        }
        Q least = null;
        int act = 0;
        for (int a = 0; a <= 4; a++) {
            if (a > 0 && (t % p != 0 || !m.has(a - 1))) {
                continue;
            }
            int at = a == 0 ? w : m.mw[a - 1];
            Q c = Q.of(m.c[at] + (a == 0 ? 0 : Math.max(0, m.mc[a - 1] - t * f)));
            for (int b = at; b < m.k; b++) {
                if (!m.p(at, b).isZero()) {
                    c = c.plus(m.p(at, b).times(planMemo(m, b, t + 1, days, p, f)));
                }
            }
            if (least == null || c.compareTo(least) < 0) {
                least = c;
                act = a;
            }
        }
        firstAct = act;
        return least;
    }

    private Map<Integer, Q> memo = new HashMap<>();

    private Q planMemo(M m, int w, int t, int days, int p, int f) {
        Q r = memo.get(t * 8 + w);
        if (r == null) {
            r = planFrom(m, w, t, days, p, f);
            memo.put(t * 8 + w, r);
        }
        return r;
    }

    int planBad(int m, int w, int days, int p, int f) {
        if (!okW(m, w)) {
            return UNKNOWN;
        }
        return days < 1 || days > 8 || p < 1 || p > 8 || f < 0 || f > 9 ? OUTSIDE : 0;
    }

    long plan(int m, int w, int days, int p, int f, boolean upper) {
        int bad = planBad(m, w, days, p, f);
        memo.clear();
        return bad != 0 ? bad : planFrom(ms[m], w, 0, days, p, f).told(upper);
    }

    int planAct(int m, int w, int days, int p, int f) {
        int bad = planBad(m, w, days, p, f);
        if (bad != 0) {
            return bad;
        }
        memo.clear();
        planFrom(ms[m], w, 0, days, p, f);
        return firstAct;
    }

    /** Mean cost of the days left by a belief of chances that come to 1. */
    Q blind(M m, Q[] belief, int days) {
        if (days == 0) {
            return Q.ZERO;
        }
        Q least = onward(m, belief, days);
        int act = 0;
        for (int i = 0; i < 4; i++) {
            if (m.has(i)) {
                Q c = Q.of(m.mc[i]).plus(onward(m, unit(m.mw[i]), days));
                if (c.compareTo(least) < 0) {
                    least = c;
                    act = i + 1;
                }
            }
        }
        if (m.look != NONE) {
            Q c = Q.of(m.look);
            for (int w = 0; w < m.k; w++) {
                if (!belief[w].isZero()) {
                    Q known = onward(m, unit(w), days);
                    for (int i = 0; i < 4; i++) {
                        Q d = m.has(i) ? Q.of(m.mc[i]).plus(onward(m, unit(m.mw[i]), days)) : known;
                        known = d.compareTo(known) < 0 ? d : known;
                    }
                    c = c.plus(belief[w].times(known));
                }
            }
            if (c.compareTo(least) < 0) {
                least = c;
                act = 5;
            }
        }
        firstAct = act;
        return least;
    }

    static Q[] unit(int w) {
        Q[] r = new Q[8];
        Arrays.fill(r, Q.ZERO);
        r[w] = Q.ONE;
        return r;
    }

    Q onward(M m, Q[] belief, int days) {
        Q c = Q.ZERO;
        Q[] next = new Q[8];
        Arrays.fill(next, Q.ZERO);
        for (int a = 0; a < m.k; a++) {
            c = c.plus(belief[a].times(Q.of(m.c[a])));
            for (int b = a; b < m.k && !belief[a].isZero(); b++) {
                next[b] = next[b].plus(belief[a].times(m.p(a, b)));
            }
        }
        for (int heard = 0; heard < 2 && days > 1; heard++) {
            Q all = Q.ZERO;
            Q[] then = new Q[8];
            for (int b = 0; b < 8; b++) {
                then[b] = next[b].times(Q.tenths(heard == 1 ? m.q[b] : 10 - m.q[b]));
                all = all.plus(then[b]);
            }
            if (!all.isZero()) {
                for (int b = 0; b < 8; b++) {
                    then[b] = then[b].over(all);
                }
                c = c.plus(all.times(blind(m, then, days - 1)));
            }
        }
        return c;
    }

    int blindBad(int m, int days) {
        if (!okM(m)) {
            return UNKNOWN;
        }
        if (days < 1 || days > 3) {
            return OUTSIDE;
        }
        return sum(m).compareTo(BigInteger.TEN.pow(9)) > 0 ? STATE : 0;
    }

    Q blindTop(int m, int days) {
        Q[] belief = new Q[8];
        for (int a = 0; a < 8; a++) {
            belief[a] = Q.of(th[m][a], sum(m));
        }
        return blind(ms[m], belief, days);
    }

    long unseen(int m, int days, boolean upper) {
        int bad = blindBad(m, days);
        return bad != 0 ? bad : blindTop(m, days).told(upper);
    }

    int unseenAct(int m, int days) {
        int bad = blindBad(m, days);
        if (bad != 0) {
            return bad;
        }
        blindTop(m, days);
        return firstAct;
    }

    private Map<Integer, Q> twoMemo = new HashMap<>();

    Q twoFrom(M m, int w, M o, int v, int days) {
        if (days == 0) {
            return Q.ZERO;
        }
        Q known = twoMemo.get(days * 64 + w * 8 + v);
        if (known != null) {
            return known;
        }
        Q one = Q.of(m.c[w]), other = Q.of(o.c[v]);
        for (int b = w; b < m.k; b++) {
            one = one.plus(m.p(w, b).times(twoFrom(m, b, o, v, days - 1)));
        }
        for (int b = v; b < o.k; b++) {
            other = other.plus(o.p(v, b).times(twoFrom(m, w, o, b, days - 1)));
        }
        firstAct = other.compareTo(one) < 0 ? 1 : 0;
        Q r = firstAct == 1 ? other : one;
        twoMemo.put(days * 64 + w * 8 + v, r);
        return r;
    }

    int twoBad(int m, int w, int o, int v, int days) {
        if (!okW(m, w) || !okW(o, v)) {
            return UNKNOWN;
        }
        return days < 1 || days > 6 ? OUTSIDE : 0;
    }

    long two(int m, int w, int o, int v, int days, boolean upper) {
        int bad = twoBad(m, w, o, v, days);
        twoMemo.clear();
        return bad != 0 ? bad : twoFrom(ms[m], w, ms[o], v, days).told(upper);
    }

    int whom(int m, int w, int o, int v, int days) {
        int bad = twoBad(m, w, o, v, days);
        if (bad != 0) {
            return bad;
        }
        twoMemo.clear();
        twoFrom(ms[m], w, ms[o], v, days);
        return firstAct;
    }

    // ---- the log

    int log(int row) {
        if (row < 0 || row > 5) {
            return OUTSIDE;
        }
        if (log.size() == 16) {
            return FULL;
        }
        log.add(row);
        return log.size();
    }

    int unlog() {
        int r = log.size();
        log = new ArrayList<>();
        return r;
    }

    static BigInteger[] rowOn(M m, BigInteger[] w, int row, int[] why) {
        if (row >= 2) {
            why[0] = UNKNOWN;
            return m.has(row - 2) ? at(m.mw[row - 2]) : null;
        }
        BigInteger[] d = dayOn(m, w, why);
        return d == null ? null : knockOn(m, d, row == 1, why);
    }

    int read(int m) {
        if (!okM(m)) {
            return UNKNOWN;
        }
        BigInteger[] w = first();
        int[] why = new int[1];
        for (int row : log) {
            w = rowOn(ms[m], w, row, why);
            if (w == null) {
                return why[0];
            }
        }
        th[m] = w;
        return log.size();
    }

    int late(int m, int bar, int share) {
        if (!okM(m)) {
            return UNKNOWN;
        }
        if (bar < 0 || bar > 7 || share < 1 || share > 100) {
            return OUTSIDE;
        }
        BigInteger[] w = first();
        int[] why = new int[1];
        for (int i = 0; i < log.size(); i++) {
            w = rowOn(ms[m], w, log.get(i), why);
            if (w == null) {
                return why[0];
            }
            BigInteger all = Arrays.stream(w).reduce(BigInteger.ZERO, BigInteger::add);
            BigInteger high = Arrays.stream(w).skip(bar).reduce(BigInteger.ZERO, BigInteger::add);
            if (Q.of(high, all).compareTo(Q.of(share).over(Q.of(100))) >= 0) {
                return i;
            }
        }
        return NONE;
    }

    int keep(int s) {
        if (s < 0 || s > 1) {
            return UNKNOWN;
        }
        int r = slots[s] == null ? 1 : 0;
        slots[s] = new Object[] {th.clone(), gen.clone(), new ArrayList<>(log)};
        return r;
    }

    @SuppressWarnings("unchecked")
    int again(int s) {
        if (s < 0 || s > 1) {
            return UNKNOWN;
        }
        if (slots[s] == null) {
            return STATE;
        }
        int taken = 0;
        for (int m = 0; m < 3; m++) {
            if (gen[m] == ((int[]) slots[s][1])[m]) {
                th[m] = ((BigInteger[][]) slots[s][0])[m];
                taken++;
            }
        }
        log = new ArrayList<>((List<Integer>) slots[s][2]);
        return taken;
    }

    int count(int what) {
        int mendings = 0;
        for (int m = 0; m < 3; m++) {
            mendings += Integer.bitCount(about(m, 2));
        }
        return what == 0 ? text.length() : what == 1 ? log.size() : what == 2 ? mendings : OUTSIDE;
    }
}
