import java.math.BigInteger;
import java.util.ArrayList;
import java.util.Arrays;
import java.util.HashSet;
import java.util.List;
import java.util.NoSuchElementException;
import java.util.Set;

/** The document told a second time, as plainly and slowly as can be, for AgainstModelTest to compare with. */
final class Model {
    static final int NONE = -1;

    static final class D {
        int tower, side, stop, day, hour, a, b, hours, rate, wear, price, water, drillA, drillB;
        int[] facts;
        List<int[]> panes = new ArrayList<>();
    }

    static final class M {
        int drops;
        int[] worn;
        int[][][][] washed;
    }

    int[] floors = new int[6], columns = new int[6], width = new int[6], life = new int[6], worn = new int[6];
    boolean[][][][] blocked = new boolean[6][4][12][10];
    int[][][][] washed = new int[6][4][12][10];
    boolean[][][] shut = new boolean[6][4][10];
    int[][][] wind = new int[4][100][24];
    List<int[]> nests = new ArrayList<>(), leaves = new ArrayList<>(), films = new ArrayList<>();
    List<int[]> keys = new ArrayList<>(), complaints = new ArrayList<>(), row = new ArrayList<>();
    List<int[]> wanted = new ArrayList<>();
    boolean[] elder = new boolean[10];
    int[] drilled = new int[10];
    List<D> drops = new ArrayList<>();
    StringBuilder tape = new StringBuilder();
    ModelRule rule = new ModelRule();
    int[][] chance = new int[5][4];
    boolean[][] came = new boolean[5][4];
    int cap = 2;
    int[][] match = new int[10][10];
    int[][] offers = new int[8][];
    boolean[][] away = new boolean[10][20];
    M[] marks = new M[4];
    List<Integer> laid = new ArrayList<>();

    Model() {
        Arrays.fill(drilled, NONE);
        for (int[][][] t : washed) for (int[][] s : t) for (int[] f : s) Arrays.fill(f, NONE);
        for (int[] d : chance) Arrays.fill(d, 5);
        for (boolean[] d : came) Arrays.fill(d, true);
    }

    boolean told(int t) { return t >= 0 && t < 6 && floors[t] > 0; }
    boolean sideOk(int s) { return s >= 0 && s < 4; }
    boolean dayOk(int d) { return d >= 0 && d < 100; }
    boolean hourOk(int h) { return h >= 0 && h < 24; }
    boolean personOk(int p) { return p >= 0 && p < 10; }
    boolean paneOk(int t, int s, int f, int c) {
        return told(t) && sideOk(s) && f >= 0 && f < floors[t] && c >= 0 && c < columns[t];
    }

    boolean tower(int t, int f, int c) {
        if (t < 0 || t > 5 || told(t) || f < 1 || f > 12 || c < 1 || c > 10) return false;
        floors[t] = f; columns[t] = c; width[t] = 2; life[t] = 1000; worn[t] = 0;
        return true;
    }
    boolean block(int t, int s, int f, int c, boolean yes) {
        if (!paneOk(t, s, f, c)) return false;
        blocked[t][s][f][c] = yes;
        return true;
    }
    boolean nest(int t, int s, int f, int c, int from, int to) {
        if (!paneOk(t, s, f, c) || !dayOk(from) || !dayOk(to) || from > to || nests.size() == 20) return false;
        nests.add(new int[] {t, s, f, c, from, to});
        return true;
    }
    boolean rail(int t, int s, int stop, boolean open) {
        if (!paneOk(t, s, 0, stop)) return false;
        shut[t][s][stop] = !open;
        return true;
    }
    boolean cradle(int t, int w, int l) {
        if (!told(t) || w < 1 || w > 4 || l < 1 || l > 9999) return false;
        width[t] = w; life[t] = l; worn[t] = 0;
        return true;
    }
    boolean wind(int s, int d, int h, int speed) {
        if (!sideOk(s) || !dayOk(d) || !hourOk(h) || speed < 0 || speed > 99) return false;
        wind[s][d][h] = speed;
        return true;
    }
    boolean leave(int t, int d, int from, int to) {
        if (!told(t) || !dayOk(d) || !hourOk(from) || !hourOk(to) || from > to || leaves.size() == 60) return false;
        leaves.add(new int[] {t, d, from, to});
        return true;
    }
    boolean elder(int p, boolean yes) {
        if (!personOk(p)) return false;
        elder[p] = yes;
        return true;
    }
    boolean drill(int p, int d) {
        if (!personOk(p) || !dayOk(d)) return false;
        drilled[p] = d;
        return true;
    }
    int feed(long a, long b, long c) {
        for (long x : new long[] {a, b, c}) {
            byte[] bytes = new byte[8];
            for (int i = 7; i >= 0; i--) { bytes[i] = (byte) x; x >>= 8; }
            for (byte y : bytes) if ((y == 10 || y >= 32 && y <= 126) && tape.length() < 1000) tape.append((char) y);
        }
        return tape.length();
    }
    int rule() {
        ModelRule r = new ModelRule();
        int fault = r.read(tape.toString());
        tape.setLength(0);
        if (fault == 0) rule = r;
        return fault;
    }

    boolean nested(int t, int s, int f, int c, int day) {
        for (int[] n : nests) {
            if (n[0] == t && n[1] == s && n[2] == f && n[3] == c && n[4] <= day && day <= n[5]) return true;
        }
        return false;
    }
    List<int[]> panes(int t, int s, int stop, int day) {
        List<int[]> found = new ArrayList<>();
        for (int c = stop; c <= stop + width[t] - 1 && c < columns[t]; c++) {
            for (int f = floors[t] - 1; f >= 0; f--) {
                if (!blocked[t][s][f][c] && !nested(t, s, f, c, day)) found.add(new int[] {f, c});
            }
        }
        return found;
    }
    int reach(int t, int s, int stop, int day) {
        return paneOk(t, s, 0, stop) && dayOk(day) ? panes(t, s, stop, day).size() : NONE;
    }
    boolean onLeave(int t, int d, int h) {
        for (int[] l : leaves) if (l[0] == t && l[1] == d && l[2] <= h && h <= l[3]) return true;
        return false;
    }
    boolean filmed(int t, int s, int d, int h) {
        for (int[] f : films) {
            if (f[0] == t && f[1] == s && f[2] <= d && d <= f[3] && f[4] <= h && h <= f[5]) return true;
        }
        return false;
    }
    /** tower, side, floors, day, week, hour, wind, panes, hours, worn, age. */
    int[] factsIn(int[] facts, int hour) {
        int[] x = facts.clone();
        x[5] = hour;
        x[6] = wind[facts[1]][facts[3]][Math.min(23, hour)];
        return x;
    }
    boolean any(List<ModelRule.E> es, int[] facts) {
        for (ModelRule.E e : es) if (e.value(facts) != 0) return true;
        return false;
    }
    boolean stopped(D d) {
        for (int h = d.hour; h < d.hour + d.hours; h++) if (any(rule.stops, factsIn(d.facts, h))) return true;
        return false;
    }
    boolean quiet(D d) {
        for (int h = d.hour; h < d.hour + d.hours; h++) if (any(rule.quiets, factsIn(d.facts, h))) return true;
        return false;
    }

    D build(int t, int s, int stop, int day, int hour, int a, int b) {
        D d = new D();
        d.tower = t; d.side = s; d.stop = stop; d.day = day; d.hour = hour; d.a = a; d.b = b;
        d.rate = rule.rate;
        while (d.hours * d.rate < floors[t]) d.hours++;
        d.panes = panes(t, s, stop, day);
        d.drillA = drilled[a];
        d.drillB = drilled[b];
        int age = 0;
        for (int[] p : d.panes) {
            int last = washed[t][s][p[0]][p[1]];
            age = Math.max(age, last == NONE ? 99 : Math.min(99, day - last));
        }
        d.facts = new int[] {t, s, floors[t], day, day % 7, 0, 0, d.panes.size(), d.hours, worn[t], age};
        int[] first = factsIn(d.facts, hour);
        d.wear = rule.wear == null ? 0 : Math.max(0, rule.wear.value(first));
        d.price = rule.price == null ? 0 : Math.max(0, rule.price.value(first));
        d.water = rule.water == null ? 0 : Math.max(0, rule.water.value(first));
        return d;
    }
    Set<Integer> hoursOf(D d) {
        Set<Integer> all = new HashSet<>();
        for (int k = 0; k < d.hours; k++) all.add(d.day * 100 + d.hour + k);
        return all;
    }
    boolean meets(D x, D y) {
        Set<Integer> both = hoursOf(x);
        both.retainAll(hoursOf(y));
        return !both.isEmpty();
    }
    boolean drillOk(int last, int day) {
        if (last == NONE) return false;
        for (int d = day; d >= day - rule.drill; d--) if (d == last) return true;
        return false;
    }
    int whyOf(D d) {
        if (shut[d.tower][d.side][d.stop]) return 1;
        if (d.panes.isEmpty()) return 2;
        if (d.a == d.b || !(elder[d.a] || elder[d.b])) return 3;
        if (d.hour + d.hours - 1 > 23) return 4;
        for (D x : drops) if (meets(x, d) && (x.a == d.a || x.a == d.b || x.b == d.a || x.b == d.b)) return 5;
        for (D x : drops) if (meets(x, d) && x.tower == d.tower) return 6;
        if (!drillOk(drilled[d.a], d.day) || !drillOk(drilled[d.b], d.day)) return 7;
        for (int h = d.hour; h < d.hour + d.hours; h++) if (!onLeave(d.tower, d.day, h)) return 8;
        if (stopped(d)) return 9;
        if (quiet(d)) return 10;
        if ((long) worn[d.tower] + d.wear > life[d.tower]) return 11;
        if (rule.keys) {
            for (int h = d.hour; h < d.hour + d.hours; h++) {
                int who = holds(d.tower, d.day, h);
                if (who != d.a && who != d.b) return 12;
            }
        }
        for (int h = d.hour; h < d.hour + d.hours; h++) if (filmed(d.tower, d.side, d.day, h)) return 13;
        return 0;
    }
    boolean askable(int t, int s, int stop, int day, int hour, int a, int b) {
        return paneOk(t, s, 0, stop) && dayOk(day) && hourOk(hour) && personOk(a) && personOk(b);
    }
    int why(int t, int s, int stop, int day, int hour, int a, int b) {
        if (!askable(t, s, stop, day, hour, a, b) || drops.size() == 60) return NONE;
        if (!drops.isEmpty() && drops.get(drops.size() - 1).day > day) return NONE;
        return whyOf(build(t, s, stop, day, hour, a, b));
    }
    int drop(int t, int s, int stop, int day, int hour, int a, int b) {
        if (why(t, s, stop, day, hour, a, b) != 0) return NONE;
        D d = build(t, s, stop, day, hour, a, b);
        for (int[] p : d.panes) washed[t][s][p[0]][p[1]] = day;
        worn[t] += d.wear;
        drops.add(d);
        return drops.size() - 1;
    }
    int made(int i, int what) {
        if (i < 0 || i >= drops.size() || what < 0 || what > 11) throw new NoSuchElementException();
        D d = drops.get(i);
        int rescue = 0;
        for (int k = 0; k < d.hours; k++) {
            int high = floors[d.tower] - d.rate * k, low = Math.max(0, high - d.rate);
            rescue = Math.max(rescue, Math.min(floors[d.tower] - low, high));
        }
        return new int[] {d.tower, d.side, d.stop, d.day, d.hour, d.hours, d.panes.size(), d.wear, d.price, d.water,
            stopped(d) ? 1 : 0, rescue}[what];
    }
    int washed(int t, int s, int f, int c) { return paneOk(t, s, f, c) ? washed[t][s][f][c] : NONE; }
    int against(int s) {
        if (s != NONE && !sideOk(s)) return NONE;
        int n = 0;
        for (D d : drops) if ((s == NONE || d.side == s) && stopped(d)) n++;
        return n;
    }
    int[] idle(int t, int s, int day) {
        return new int[] {t, s, floors[t], day, day % 7, 0, 0, 0, 1, worn[t], 0};
    }
    int lost(int t, int s, int day) {
        if (!told(t) || !sideOk(s) || !dayOk(day)) return NONE;
        int n = 0;
        for (int h = 0; h < 24; h++) if (onLeave(t, day, h) && any(rule.stops, factsIn(idle(t, s, day), h))) n++;
        return n;
    }
    boolean reached(D d, int t, int s, int f, int c) {
        if (d.tower != t || d.side != s) return false;
        for (int[] p : d.panes) if (p[0] == f && p[1] == c) return true;
        return false;
    }
    boolean isLate(int t, int s, int f, int c, int day, int promise) {
        if (blocked[t][s][f][c]) return false;
        for (D d : drops) if (reached(d, t, s, f, c) && d.day <= day && d.day >= day - (promise - 1)) return false;
        return true;
    }
    int late(int t, int s, int day, int promise) {
        if (!told(t) || !sideOk(s) || !dayOk(day) || promise < 1 || promise > 99) return NONE;
        int n = 0;
        for (int f = 0; f < floors[t]; f++) {
            for (int c = 0; c < columns[t]; c++) if (isLate(t, s, f, c, day, promise)) n++;
        }
        return n;
    }
    int reason(int t, int s, int f, int c, int day, int promise) {
        if (!paneOk(t, s, f, c) || !dayOk(day) || promise < 1 || promise > 99) return NONE;
        if (blocked[t][s][f][c]) return 1;
        if (!isLate(t, s, f, c, day, promise)) return 0;
        boolean stop = false;
        for (int x = 0; x <= c; x++) if (!shut[t][s][x] && x + width[t] > c) stop = true;
        if (!stop) return 2;
        boolean bare = false, work = false;
        for (int d = Math.max(0, day - promise + 1); d <= day; d++) {
            if (nested(t, s, f, c, d)) continue;
            bare = true;
            for (int h = 0; h < 24; h++) {
                int[] x = factsIn(idle(t, s, d), h);
                if (onLeave(t, d, h) && !any(rule.stops, x) && !any(rule.quiets, x)) work = true;
            }
        }
        return !bare ? 3 : !work ? 4 : 5;
    }
    int cover(int t, int s, int what) {
        if (!told(t) || !sideOk(s) || what < 0 || what > 1) return NONE;
        int best = NONE;
        for (int bits = 0; bits < 1 << columns[t]; bits++) {
            boolean good = best == NONE || Integer.bitCount(bits) < Integer.bitCount(best);
            for (int x = 0; x < columns[t]; x++) if ((bits >> x & 1) == 1 && shut[t][s][x]) good = false;
            for (int c = 0; c < columns[t] && good; c++) {
                boolean needed = false, has = false;
                for (int f = 0; f < floors[t]; f++) needed |= !blocked[t][s][f][c];
                for (int x = Math.max(0, c - width[t] + 1); x <= c; x++) has |= (bits >> x & 1) == 1;
                if (needed && !has) good = false;
            }
            if (good) best = bits;
        }
        return best == NONE ? NONE : what == 0 ? Integer.bitCount(best) : best;
    }
    int scratch(int t, int s, int f, int c, int a, int b, int what) {
        if (!paneOk(t, s, f, c) || !dayOk(a) || !dayOk(b) || a >= b || what < 0 || what > 2) return NONE;
        int bits = 0, n = 0, last = NONE;
        for (D d : drops) {
            if (!reached(d, t, s, f, c) || d.day <= a || d.day > b) continue;
            bits |= 1 << d.a;
            bits |= 1 << d.b;
            n++;
            last = drops.indexOf(d);
        }
        return new int[] {bits, n, last}[what];
    }
    long bill(int t, int from, int to, int what) {
        if (t != NONE && !told(t) || !dayOk(from) || !dayOk(to) || from > to || what < 0 || what > 4) return NONE;
        long[] sums = new long[5];
        for (D d : drops) {
            if (t != NONE && d.tower != t || d.day < from || d.day > to) continue;
            sums[0] += d.price; sums[1] += d.water; sums[2] += d.hours; sums[3] += d.panes.size(); sums[4]++;
        }
        return sums[what];
    }
    int stands(int t, int wear) {
        if (!told(t) || wear < 1 || wear > 9999) return NONE;
        int n = 0;
        while (worn[t] + (n + 1) * wear <= life[t]) n++;
        return n;
    }

    // ---- plans

    int want(int s, int worth) {
        if (!sideOk(s) || worth < 1 || worth > 99 || wanted.size() == 8) return NONE;
        wanted.add(new int[] {s, worth});
        return wanted.size() - 1;
    }
    boolean chance(int day, int s, int ten) {
        if (day < 0 || day > 4 || !sideOk(s) || ten < 0 || ten > 10) return false;
        chance[day][s] = ten;
        return true;
    }
    boolean cap(int n) {
        if (n < 1 || n > 8) return false;
        cap = n;
        return true;
    }
    int after(int left, int side) {
        for (int n = 0; n < cap; n++) {
            int best = NONE;
            for (int i = 0; i < wanted.size(); i++) {
                boolean is = (left >> i & 1) == 1 && wanted.get(i)[0] == side;
                if (is && (best == NONE || wanted.get(i)[1] > wanted.get(best)[1])) best = i;
            }
            if (best != NONE) left &= ~(1 << best);
        }
        return left;
    }
    int worth(int bits) {
        int sum = 0;
        for (int i = 0; i < wanted.size(); i++) if ((bits >> i & 1) == 1) sum += wanted.get(i)[1];
        return sum;
    }
    /** In parts of 10 to the power 5, whatever the day. */
    BigInteger planned(int day, int left) {
        if (day == 5) return BigInteger.ZERO;
        BigInteger best = planned(day + 1, left);
        for (int s = 0; s < 4; s++) best = best.max(chosen(day, left, s));
        return best;
    }
    BigInteger chosen(int day, int left, int s) {
        int then = after(left, s);
        if (then == left) return planned(day + 1, left);
        BigInteger yes = BigInteger.valueOf(worth(left & ~then)).multiply(BigInteger.TEN.pow(10)).add(planned(day + 1, then));
        BigInteger no = planned(day + 1, left);
        BigInteger c = BigInteger.valueOf(chance[day][s]);
        return yes.multiply(c).add(no.multiply(BigInteger.TEN.subtract(c))).divide(BigInteger.TEN);
    }
    long lowest(BigInteger above, int what) {
        BigInteger below = BigInteger.TEN.pow(10);
        BigInteger g = above.gcd(below);
        return (what == 0 ? above : below).divide(g).longValueExact();
    }
    int first(int day, int left) {
        int first = NONE;
        BigInteger best = planned(day + 1, left);
        for (int s = 0; s < 4; s++) {
            BigInteger x = chosen(day, left, s);
            if (x.compareTo(best) > 0) { best = x; first = s; }
        }
        return first;
    }
    long plan(int day, int left, int what) {
        if (day < 0 || day > 4 || left < 0 || left >= 1 << wanted.size() || what < 0 || what > 2) {
            throw new NoSuchElementException();
        }
        return what == 2 ? first(day, left) : lowest(planned(day, left), what);
    }
    /** In parts of 10 to the 10: walks all 32 ways in which a row can turn out. */
    BigInteger rowWorth(int[] row, int day, int left) {
        if (day == 5) return BigInteger.ZERO;
        BigInteger no = rowWorth(row, day + 1, left);
        if (row[day] == 4) return no;
        int then = after(left, row[day]);
        if (then == left) return no;
        BigInteger yes = BigInteger.valueOf(worth(left & ~then)).multiply(BigInteger.TEN.pow(10)).add(rowWorth(row, day + 1, then));
        BigInteger c = BigInteger.valueOf(chance[day][row[day]]);
        return yes.multiply(c).add(no.multiply(BigInteger.TEN.subtract(c))).divide(BigInteger.TEN);
    }
    int[] bestRow;
    BigInteger bestWorth;
    void findRow() {
        bestRow = null;
        int[] r = new int[5];
        for (r[0] = 0; r[0] < 5; r[0]++) for (r[1] = 0; r[1] < 5; r[1]++) for (r[2] = 0; r[2] < 5; r[2]++) {
            for (r[3] = 0; r[3] < 5; r[3]++) for (r[4] = 0; r[4] < 5; r[4]++) {
                BigInteger w = rowWorth(r, 0, (1 << wanted.size()) - 1);
                if (bestRow == null || w.compareTo(bestWorth) > 0) { bestRow = r.clone(); bestWorth = w; }
            }
        }
    }
    long fixed(int what) {
        if (what < 0 || what > 6) throw new NoSuchElementException();
        findRow();
        if (what < 2) return lowest(bestWorth, what);
        return bestRow[what - 2] == 4 ? NONE : bestRow[what - 2];
    }
    boolean came(int day, int s, boolean yes) {
        if (day < 0 || day > 4 || !sideOk(s)) return false;
        came[day][s] = yes;
        return true;
    }
    int known(int day, int left) {
        if (day == 5) return 0;
        int best = known(day + 1, left);
        for (int s = 0; s < 4; s++) {
            int then = after(left, s);
            if (came[day][s] && then != left) best = Math.max(best, worth(left & ~then) + known(day + 1, then));
        }
        return best;
    }
    int hindsight(int what) {
        int all = (1 << wanted.size()) - 1, left = all;
        if (what == 2) return known(0, all);
        if (what != 0 && what != 1) return NONE;
        if (what == 1) findRow();
        for (int day = 0; day < 5; day++) {
            int s = what == 0 ? first(day, left) : bestRow[day];
            if (s >= 0 && s < 4 && came[day][s]) left = after(left, s);
        }
        return worth(all & ~left);
    }

    // ---- gangs, offers, rotas

    boolean match(int a, int b, int n) {
        if (!personOk(a) || !personOk(b) || a == b || n < 0 || n > 99) return false;
        match[a][b] = n;
        match[b][a] = n;
        return true;
    }
    int[] bestGangs;
    int bestSum;
    void pair(List<Integer> others, int at, int used, int[] with, int sum, int pairs) {
        if (at == others.size()) {
            int n = 0;
            for (int o : others) if (with[o] != NONE) n++;
            if (n == pairs && sum > bestSum) { bestSum = sum; bestGangs = with.clone(); }
            return;
        }
        int o = others.get(at);
        for (int e = 0; e < 10; e++) {
            if (!elder[e] || (used >> e & 1) == 1) continue;
            with[o] = e;
            with[e] = o;
            pair(others, at + 1, used | 1 << e, with, sum + match[o][e], pairs);
            with[e] = NONE;
        }
        with[o] = NONE;
        pair(others, at + 1, used, with, sum, pairs);
    }
    int gangs(int what) {
        if (what < 0 || what > 10) return NONE;
        List<Integer> others = new ArrayList<>();
        for (int p = 0; p < 10; p++) if (!elder[p]) others.add(p);
        int[] with = new int[10];
        Arrays.fill(with, NONE);
        bestSum = -1;
        pair(others, 0, 0, with, 0, Math.min(others.size(), 10 - others.size()));
        return what == 0 ? bestSum : bestGangs[what - 1];
    }
    boolean offer(int o, int cost, int towers, int many) {
        if (o < 0 || o > 7 || cost < 0 || cost > 9999 || towers < 0 || towers > 63 || many < 0 || many > 6) return false;
        offers[o] = many == 0 ? null : new int[] {cost, towers, many};
        return true;
    }
    boolean serves(int bits, int tower, int[] room) {
        if (tower == 6) return true;
        if (!told(tower)) return serves(bits, tower + 1, room);
        for (int o = 0; o < 8; o++) {
            if ((bits >> o & 1) == 0 || room[o] == 0 || (offers[o][1] >> tower & 1) == 0) continue;
            room[o]--;
            boolean good = serves(bits, tower + 1, room);
            room[o]++;
            if (good) return true;
        }
        return false;
    }
    int buy(int what) {
        if (what != 0 && what != 1) return NONE;
        int best = NONE, least = Integer.MAX_VALUE;
        for (int bits = 0; bits < 256; bits++) {
            int cost = 0;
            int[] room = new int[8];
            boolean there = true;
            for (int o = 0; o < 8; o++) {
                if ((bits >> o & 1) == 0) continue;
                if (offers[o] == null) { there = false; continue; }
                cost += offers[o][0];
                room[o] = offers[o][2];
            }
            if (there && cost < least && serves(bits, 0, room)) { best = bits; least = cost; }
        }
        return best == NONE ? NONE : what == 0 ? least : best;
    }
    boolean away(int p, int week, boolean yes) {
        if (!personOk(p) || week < 0 || week > 19) return false;
        away[p][week] = yes;
        return true;
    }
    int rota(int n, int week) {
        if (n < 2 || n > 10 || week < 0 || week > 19) return NONE;
        int[] done = new int[10], last = new int[10];
        Arrays.fill(last, -1);
        int bits = 0;
        for (int w = 0; w <= week; w++) {
            List<Integer> free = new ArrayList<>();
            for (int p = 0; p < n; p++) if (!away[p][w]) free.add(p);
            free.sort((x, y) -> done[x] != done[y] ? done[x] - done[y] : last[x] != last[y] ? last[x] - last[y] : x - y);
            bits = 0;
            for (int i = 0; i < Math.min(2, free.size()); i++) bits |= 1 << free.get(i);
            for (int i = 0; i < Math.min(2, free.size()); i++) { done[free.get(i)]++; last[free.get(i)] = w; }
        }
        return bits;
    }

    // ---- keys, films, complaints

    boolean key(int t, int p, int d, int h, boolean takes) {
        if (!told(t) || !personOk(p) || !dayOk(d) || !hourOk(h) || keys.size() == 60) return false;
        int[] before = keys.isEmpty() ? new int[] {0, 0, 0, 0, 0} : keys.get(keys.size() - 1);
        if (d < before[2] || d == before[2] && h < before[3]) return false;
        int who = holds(t, 99, 23);
        if (takes ? who != NONE : who != p) return false;
        keys.add(new int[] {t, p, d, h, takes ? 1 : 0});
        return true;
    }
    int holds(int t, int d, int h) {
        if (!told(t) || !dayOk(d) || !hourOk(h)) return NONE;
        int who = NONE;
        for (int[] k : keys) if (k[0] == t && k[2] * 24 + k[3] <= d * 24 + h) who = k[4] == 1 ? k[1] : NONE;
        return who;
    }
    int out(int t, int d, int h) {
        if (!told(t) || !dayOk(d) || !hourOk(h)) return NONE;
        int now = d * 24 + h, most = 0;
        for (int i = 0; i < keys.size(); i++) {
            int[] k = keys.get(i);
            int from = k[2] * 24 + k[3];
            if (k[0] != t || k[4] == 0 || from > now) continue;
            int end = now;
            for (int j = i + 1; j < keys.size(); j++) {
                if (keys.get(j)[0] == t) { end = Math.min(now, keys.get(j)[2] * 24 + keys.get(j)[3]); break; }
            }
            most = Math.max(most, end - from);
        }
        return most;
    }
    boolean film(int t, int s, int from, int to, int first, int last) {
        if (!told(t) || !sideOk(s) || !dayOk(from) || !dayOk(to) || from > to) return false;
        if (!hourOk(first) || !hourOk(last) || first > last || films.size() == 12) return false;
        films.add(new int[] {t, s, from, to, first, last});
        return true;
    }
    int clashes(int t) {
        if (!told(t)) return NONE;
        int n = 0;
        for (D d : drops) {
            boolean hit = false;
            for (int h = d.hour; h < d.hour + d.hours; h++) hit |= filmed(d.tower, d.side, d.day, h);
            if (d.tower == t && hit) n++;
        }
        return n;
    }
    int complain(int t, int s, int f, int d, int h) {
        if (!paneOk(t, s, f, 0) || !dayOk(d) || !hourOk(h) || complaints.size() == 40) return NONE;
        complaints.add(new int[] {t, s, f, d, h});
        return complaints.size() - 1;
    }
    int ours(int i, int what) {
        if (i < 0 || i >= complaints.size() || what < 0 || what > 1) return NONE;
        int[] c = complaints.get(i);
        int n = 0, first = NONE;
        for (D d : drops) {
            for (int k = 0; k < d.hours; k++) {
                int top = floors[d.tower] - d.rate * k;
                boolean there = d.tower == c[0] && d.side == c[1] && d.day == c[3] && d.hour + k == c[4];
                if (there && c[2] < top && c[2] >= top - d.rate) {
                    n++;
                    if (first == NONE) first = drops.indexOf(d);
                }
            }
        }
        return what == 0 ? n : first;
    }
    int band(int b, int what) {
        if (b < 0 || b > 9 || what < 0 || what > 1) return NONE;
        int n = 0;
        if (what == 0) {
            for (D d : drops) for (int k = 0; k < d.hours; k++) if (wind[d.side][d.day][d.hour + k] / 10 == b) n++;
            return n;
        }
        for (int i = 0; i < complaints.size(); i++) {
            int[] c = complaints.get(i);
            if (ours(i, 0) > 0 && wind[c[1]][c[3]][c[4]] / 10 == b) n++;
        }
        return n;
    }
    int worst() {
        int worst = NONE;
        for (int b = 9; b >= 0; b--) {
            if (band(b, 0) == 0) continue;
            if (worst == NONE || band(b, 1) * band(worst, 0) >= band(worst, 1) * band(b, 0)) worst = b;
        }
        return worst;
    }
    int week(int t, int weekday, int what) {
        if (!told(t) || weekday < 0 || weekday > 6 || what < 0 || what > 2) return NONE;
        int[] n = new int[3];
        for (D d : drops) if (d.tower == t && d.day % 7 == weekday) { n[0]++; n[1] += d.hours; }
        for (int[] c : complaints) if (c[0] == t && c[3] % 7 == weekday) n[2]++;
        return n[what];
    }
    int water(int t, int s, int f, int c, int from, int to) {
        if (!paneOk(t, s, f, c) || !dayOk(from) || !dayOk(to) || from > to) return NONE;
        int sum = 0;
        for (D d : drops) {
            if (d.tower != t || d.side != s || d.day < from || d.day > to) continue;
            int size = d.panes.size();
            for (int i = 0; i < size; i++) {
                int[] p = d.panes.get(i);
                if (p[0] == f && p[1] == c) sum += d.water / size + (i < d.water - d.water / size * size ? 1 : 0);
            }
        }
        return sum;
    }
    int aloft(int p, int from, int to) {
        if (!personOk(p) || !dayOk(from) || !dayOk(to) || from > to) return NONE;
        int n = 0;
        for (D d : drops) if ((d.a == p || d.b == p) && from <= d.day && d.day <= to) n += d.hours;
        return n;
    }
    int learnt(int p, int hours) {
        if (!personOk(p) || hours < 1 || hours > 999) return NONE;
        for (int day = 0; day < 100; day++) {
            int n = 0;
            for (D d : drops) {
                boolean his = d.a == p && elder[d.b] || d.b == p && elder[d.a];
                if (his && d.day <= day) n += d.hours;
            }
            if (n >= hours) return day;
        }
        return NONE;
    }
    int gap(int p) {
        if (!personOk(p)) return NONE;
        int most = NONE;
        for (D d : drops) {
            if (d.a == p) most = Math.max(most, d.day - d.drillA);
            if (d.b == p) most = Math.max(most, d.day - d.drillB);
        }
        return most;
    }

    // ---- row, marks, count

    int row(int t, int s, int stop, int day, int hour, int a, int b) {
        if (!askable(t, s, stop, day, hour, a, b) || row.size() == 12) return NONE;
        row.add(new int[] {t, s, stop, day, hour, a, b});
        return row.size();
    }
    boolean clear() {
        row.clear();
        return true;
    }
    M state() {
        M m = new M();
        m.drops = drops.size();
        m.worn = worn.clone();
        m.washed = new int[6][4][12][];
        for (int t = 0; t < 6; t++) for (int s = 0; s < 4; s++) for (int f = 0; f < 12; f++) {
            m.washed[t][s][f] = washed[t][s][f].clone();
        }
        return m;
    }
    void back(M m) {
        while (drops.size() > m.drops) drops.remove(drops.size() - 1);
        worn = m.worn.clone();
        for (int t = 0; t < 6; t++) for (int s = 0; s < 4; s++) for (int f = 0; f < 12; f++) {
            washed[t][s][f] = m.washed[t][s][f].clone();
        }
    }
    long tried(int what) {
        if (what < 0 || what > 4) throw new NoSuchElementException();
        M m = state();
        long first = NONE, why = NONE, prices = 0, hours = 0;
        Set<String> panes = new HashSet<>();
        for (int i = 0; i < row.size() && first == NONE; i++) {
            int[] r = row.get(i);
            int w = why(r[0], r[1], r[2], r[3], r[4], r[5], r[6]);
            if (w != 0) {
                first = i;
                why = w;
            } else {
                D d = drops.get(drop(r[0], r[1], r[2], r[3], r[4], r[5], r[6]));
                prices += d.price;
                hours += d.hours;
                for (int[] p : d.panes) panes.add(r[0] + " " + r[1] + " " + p[0] + " " + p[1]);
            }
        }
        back(m);
        return new long[] {first, why, prices, hours, panes.size()}[what];
    }
    boolean mark(int i, boolean back) {
        if (i < 0 || i > 3) return false;
        if (!back) {
            marks[i] = state();
            laid.remove((Integer) i);
            laid.add(i);
            return true;
        }
        if (!laid.contains(i)) return false;
        back(marks[i]);
        while (laid.get(laid.size() - 1) != i) laid.remove(laid.size() - 1);
        return true;
    }
    int count(int what) {
        int towers = 0, elders = 0, panes = 0, there = 0;
        for (int t = 0; t < 6; t++) if (told(t)) towers++;
        for (boolean e : elder) if (e) elders++;
        for (boolean[][][] t : blocked) for (boolean[][] s : t) for (boolean[] f : s) for (boolean x : f) if (x) panes++;
        for (int[] o : offers) if (o != null) there++;
        int[] n = {towers, drops.size(), nests.size(), leaves.size(), wanted.size(), there, tape.length(), elders, panes,
            keys.size(), films.size(), complaints.size(), row.size()};
        return what < 0 || what >= n.length ? NONE : n[what];
    }
}
