import java.util.NoSuchElementException;
import java.util.Random;

/** Random runs of calls, each answer compared with the model's: all promises, good and wrong inputs. */
public final class AgainstModelTest {
    private static final long THROWS = Long.MIN_VALUE + 7;
    private static final int RUNS = Integer.getInteger("runs", 250);

    private final Random r;
    private final MenOnCradles x = new MenOnCradles();
    private final Model m = new Model();
    private final StringBuilder log = new StringBuilder();
    private int calls = 0;
    private int now = 0;
    private boolean wrong = false;
    private final boolean wild;
    private final boolean planning;
    static int made = 0;
    static final int[] whys = new int[15];
    static final int[] reasons = new int[7];
    static final int[] faults = new int[6];

    private AgainstModelTest(long seed) {
        r = new Random(seed);
        wild = r.nextInt(4) == 0;
        planning = r.nextInt(6) == 0;
    }

    private void due(String call, long got, long want) {
        calls++;
        log.append(call).append(" answered ").append(got).append('\n');
        if (got != want && !wrong) {
            wrong = true;
            log.append("  due is ").append(want == THROWS ? "throws" : "" + want).append('\n');
        }
    }

    private void due(String call, boolean got, boolean want) { due(call, got ? 1 : 0, want ? 1 : 0); }

    private int in(int least, int most) {
        if (r.nextInt(wild ? 20 : 150) == 0) {
            int[] odd = {least - 1, most + 1, Integer.MIN_VALUE, Integer.MAX_VALUE, -1, 64, 100, -64};
            return odd[r.nextInt(odd.length)];
        }
        return least + r.nextInt(most - least + 1);
    }

    private boolean yes() { return r.nextBoolean(); }
    private int t() { return r.nextInt(10) == 0 ? in(0, 5) : in(0, 1); }
    private int s() { return r.nextInt(3) == 0 ? in(0, 3) : in(0, 1); }
    private int f() { return in(0, r.nextInt(3) == 0 ? 11 : 3); }
    private int c() { return in(0, r.nextInt(3) == 0 ? 9 : 3); }
    private int day() { return r.nextInt(4) == 0 ? in(0, 99) : Math.min(99, now + in(0, 1)); }
    private int near() { return Math.max(0, Math.min(99, now - 6 + in(0, 9))); }
    private int h() { return in(r.nextInt(4) == 0 ? 0 : 8, r.nextInt(4) == 0 ? 23 : 16); }
    private int p() { return r.nextInt(6) == 0 ? in(0, 9) : in(0, 3); }

    private void run() {
        set();
        while (calls < 505 && !wrong) {
            if (planning && r.nextInt(3) == 0) plans(); else any();
        }
    }

    private void set() {
        for (int t = 0; t < 2; t++) { int fl = in(1, 12), co = in(1, 10); due("tower " + t + " " + fl + " " + co, x.tower(t, fl, co), m.tower(t, fl, co)); }
        for (int p = 0; p < 4; p++) { due("drill " + p, x.drill(p, 0), m.drill(p, 0)); }
        due("elder 0", x.elder(0, true), m.elder(0, true));
        if (yes()) due("elder 2", x.elder(2, true), m.elder(2, true));
        for (int d = 0; d < 5; d++) for (int t = 0; t < 2; t++) due("leave " + t + " " + d, x.leave(t, d, 6, 20), m.leave(t, d, 6, 20));
    }

    private interface Asked { long get(); }

    private static long orThrows(Asked a) {
        try { return a.get(); } catch (NoSuchElementException e) { return THROWS; }
    }

    private void feedRule() {
        String text = r.nextInt(30) == 0 ? Texts.rule(r) + " ".repeat(900) + Texts.rule(r) : Texts.rule(r);
        for (int i = 0; i < text.length(); i += 24) {
            long a = Texts.pack(text, i), b = Texts.pack(text, i + 8), c = Texts.pack(text, i + 16);
            if (r.nextInt(200) == 0) a = r.nextLong();
            due("feed(" + a + "," + b + "," + c + ")", x.feed(a, b, c), m.feed(a, b, c));
            if (calls > 500) return;
        }
        if (r.nextInt(20) != 0) {
            int fault = m.rule();
            faults[fault % 16]++;
            due("rule() of [" + text + "]", x.rule(), fault);
        }
    }

    private void any() {
        int k = r.nextInt(100);
        if (k < 40) { work(); return; }
        if (k < 58) { tell(); return; }
        if (k < 61) { feedRule(); return; }
        if (k < 85) { look(); return; }
        if (k < 95) { rows(); return; }
        if (k < 97 || r.nextInt(12) != 0) { people(); return; }
        plans();
    }

    private void work() {
        int t = t(), s = s(), c = c(), d = r.nextInt(8) == 0 ? day() : Math.min(99, now), h = h(), a = p(), b = p();
        if (r.nextInt(3) != 0) { a = 0; b = 1 + r.nextInt(3); }
        String args = "(" + t + "," + s + "," + c + "," + d + "," + h + "," + a + "," + b + ")";
        int why = m.why(t, s, c, d, h, a, b);
        whys[why + 1]++;
        if (r.nextInt(3) == 0) { due("why" + args, x.why(t, s, c, d, h, a, b), why); return; }
        int got = m.drop(t, s, c, d, h, a, b);
        due("drop" + args, x.drop(t, s, c, d, h, a, b), got);
        if (got != -1) { made++; if (r.nextInt(3) == 0) now = Math.min(99, m.drops.get(got).day + r.nextInt(3)); }
    }

    private void tell() {
        int t = t(), s = s(), f = f(), c = c(), d = day(), h = h(), p = p();
        switch (r.nextInt(14)) {
            case 0: { int fl = in(1, 12), co = in(1, 10), tw = in(0, 5); due("tower(" + tw + "," + fl + "," + co + ")", x.tower(tw, fl, co), m.tower(tw, fl, co)); break; }
            case 1: { boolean y = r.nextInt(3) != 0; due("block(" + t + "," + s + "," + f + "," + c + "," + y + ")", x.block(t, s, f, c, y), m.block(t, s, f, c, y)); break; }
            case 2: { int to = Math.min(99, d + in(0, 6)); due("nest(" + t + "," + s + "," + f + "," + c + "," + d + "," + to + ")", x.nest(t, s, f, c, d, to), m.nest(t, s, f, c, d, to)); break; }
            case 3: { boolean y = r.nextInt(3) != 0; due("rail(" + t + "," + s + "," + c + "," + y + ")", x.rail(t, s, c, y), m.rail(t, s, c, y)); break; }
            case 4: { int w = in(1, 4), l = in(1, r.nextInt(3) == 0 ? 100 : 9999); due("cradle(" + t + "," + w + "," + l + ")", x.cradle(t, w, l), m.cradle(t, w, l)); break; }
            case 5: case 6: { int v = in(0, 99); d = r.nextInt(3) == 0 ? d : near(); due("wind(" + s + "," + d + "," + h + "," + v + ")", x.wind(s, d, h, v), m.wind(s, d, h, v)); break; }
            case 7: case 8: case 9: { int from = in(0, 10), to = in(8, 23); due("leave(" + t + "," + d + "," + from + "," + to + ")", x.leave(t, d, from, to), m.leave(t, d, from, to)); break; }
            case 10: { boolean y = r.nextInt(3) != 0; due("elder(" + p + "," + y + ")", x.elder(p, y), m.elder(p, y)); break; }
            case 11: due("drill(" + p + "," + d + ")", x.drill(p, d), m.drill(p, d)); break;
            case 12: { int to = Math.min(99, d + in(0, 3)), first = in(0, 23), last = in(0, 23); due("film(" + t + "," + s + "," + d + "," + to + "," + first + "," + last + ")", x.film(t, s, d, to, first, last), m.film(t, s, d, to, first, last)); break; }
            default: {
                boolean takes = yes();
                int hh = in(0, 23);
                if (!takes && r.nextInt(4) != 0) p = m.holds(t, 99, 23);
                due("key(" + t + "," + p + "," + d + "," + hh + "," + takes + ")", x.key(t, p, d, hh, takes), m.key(t, p, d, hh, takes));
            }
        }
    }

    private void look() {
        int t = t(), s = s(), f = f(), c = c(), d = near(), h = h(), p = p(), to = near();
        if (r.nextInt(3) != 0 && d > to) { int swap = d; d = to; to = swap; }
        int n = d, last = to;
        int promise = in(1, r.nextInt(3) == 0 ? 99 : 9);
        switch (r.nextInt(26)) {
            case 0: due("reach(" + t + "," + s + "," + c + "," + n + ")", x.reach(t, s, c, n), m.reach(t, s, c, n)); break;
            case 1: case 2: { int i = in(0, Math.max(0, m.drops.size() - 1)), w = in(0, 11); due("made(" + i + "," + w + ")", orThrows(() -> x.made(i, w)), orThrows(() -> m.made(i, w))); break; }
            case 3: due("washed(" + t + "," + s + "," + f + "," + c + ")", x.washed(t, s, f, c), m.washed(t, s, f, c)); break;
            case 4: { int w = in(-1, 3); due("against(" + w + ")", x.against(w), m.against(w)); break; }
            case 5: due("lost(" + t + "," + s + "," + n + ")", x.lost(t, s, n), m.lost(t, s, n)); break;
            case 6: due("late(" + t + "," + s + "," + n + "," + promise + ")", x.late(t, s, n, promise), m.late(t, s, n, promise)); break;
            case 7: case 8: { int due = m.reason(t, s, f, c, n, promise); reasons[due + 1]++; due("reason(" + t + "," + s + "," + f + "," + c + "," + n + "," + promise + ")", x.reason(t, s, f, c, n, promise), due); break; }
            case 9: { int w = in(0, 1); due("cover(" + t + "," + s + "," + w + ")", x.cover(t, s, w), m.cover(t, s, w)); break; }
            case 10: { int w = in(0, 2); due("scratch(" + t + "," + s + "," + f + "," + c + "," + n + "," + last + "," + w + ")", x.scratch(t, s, f, c, n, last, w), m.scratch(t, s, f, c, n, last, w)); break; }
            case 11: { int w = in(0, 4), tw = r.nextInt(3) == 0 ? -1 : t; due("bill(" + tw + "," + n + "," + last + "," + w + ")", x.bill(tw, n, last, w), m.bill(tw, n, last, w)); break; }
            case 12: { int w = in(1, 9999); due("stands(" + t + "," + w + ")", x.stands(t, w), m.stands(t, w)); break; }
            case 13: { int hh = in(0, 23); due("holds(" + t + "," + n + "," + hh + ")", x.holds(t, n, hh), m.holds(t, n, hh)); break; }
            case 14: { int hh = in(0, 23); due("out(" + t + "," + n + "," + hh + ")", x.out(t, n, hh), m.out(t, n, hh)); break; }
            case 15: due("clashes(" + t + ")", x.clashes(t), m.clashes(t)); break;
            case 16: case 17: complain(t, s, f, n, h); break;
            case 18: { int i = in(0, Math.max(0, m.complaints.size() - 1)), w = in(0, 1); due("ours(" + i + "," + w + ")", x.ours(i, w), m.ours(i, w)); break; }
            case 19: { int b = in(0, 9), w = in(0, 1); due("band(" + b + "," + w + ")", x.band(b, w), m.band(b, w)); break; }
            case 20: due("worst()", x.worst(), m.worst()); break;
            case 21: { int day = in(0, 6), w = in(0, 2); due("week(" + t + "," + day + "," + w + ")", x.week(t, day, w), m.week(t, day, w)); break; }
            case 22: due("water(" + t + "," + s + "," + f + "," + c + "," + n + "," + last + ")", x.water(t, s, f, c, n, last), m.water(t, s, f, c, n, last)); break;
            case 23: due("aloft(" + p + "," + n + "," + last + ")", x.aloft(p, n, last), m.aloft(p, n, last)); break;
            case 24: { int hours = in(1, 30); due("learnt(" + p + "," + hours + ")", x.learnt(p, hours), m.learnt(p, hours)); break; }
            default: due("gap(" + p + ")", x.gap(p), m.gap(p));
        }
    }

    private void complain(int t, int s, int f, int day, int h) {
        if (!m.drops.isEmpty() && r.nextInt(3) != 0) {
            Model.D d = m.drops.get(r.nextInt(m.drops.size()));
            t = d.tower; s = d.side; day = d.day; h = d.hour + r.nextInt(d.hours);
        }
        due("complain(" + t + "," + s + "," + f + "," + day + "," + h + ")", x.complain(t, s, f, day, h), m.complain(t, s, f, day, h));
    }

    private void rows() {
        switch (r.nextInt(10)) {
            case 0: if (r.nextInt(3) == 0) due("clear()", x.clear(), m.clear()); break;
            case 1: case 2: case 3: {
                int t = t(), s = s(), c = c(), d = Math.min(99, now + r.nextInt(2)), h = h(), a = p(), b = p();
                due("row(" + t + "," + s + "," + c + "," + d + "," + h + "," + a + "," + b + ")", x.row(t, s, c, d, h, a, b), m.row(t, s, c, d, h, a, b));
                break;
            }
            case 4: case 5: case 6: { int w = in(0, 4); due("tried(" + w + ")", orThrows(() -> x.tried(w)), orThrows(() -> m.tried(w))); break; }
            case 7: { int w = in(0, 12); due("count(" + w + ")", x.count(w), m.count(w)); break; }
            default: {
                int k = in(0, 3);
                boolean back = r.nextInt(5) == 0;
                due("mark(" + k + "," + back + ")", x.mark(k, back), m.mark(k, back));
                if (back && !m.drops.isEmpty()) now = m.drops.get(m.drops.size() - 1).day;
            }
        }
    }

    private void people() {
        switch (r.nextInt(6)) {
            case 0: { int a = in(0, 9), b = in(0, 9), n = in(0, r.nextInt(3) == 0 ? 99 : 3); due("match(" + a + "," + b + "," + n + ")", x.match(a, b, n), m.match(a, b, n)); break; }
            case 1: { int w = in(0, 10); if (m.count(7) < 4 || m.count(7) > 6 || r.nextInt(3) == 0) due("gangs(" + w + ")", x.gangs(w), m.gangs(w)); break; }
            case 2: { int o = in(0, 7), cost = in(0, r.nextInt(2) == 0 ? 5 : 9999), tw = in(0, 63), many = in(0, 6); due("offer(" + o + "," + cost + "," + tw + "," + many + ")", x.offer(o, cost, tw, many), m.offer(o, cost, tw, many)); break; }
            case 3: { int w = in(0, 1); due("buy(" + w + ")", x.buy(w), m.buy(w)); break; }
            case 4: { int a = in(0, 9), w = in(0, 19); boolean y = yes(); due("away(" + a + "," + w + "," + y + ")", x.away(a, w, y), m.away(a, w, y)); break; }
            default: { int n = in(2, 10), w = in(0, 19); due("rota(" + n + "," + w + ")", x.rota(n, w), m.rota(n, w)); }
        }
    }

    private void plans() {
        switch (r.nextInt(16)) {
            case 0: { int s = in(0, 3), w = in(1, r.nextInt(2) == 0 ? 5 : 99); due("want(" + s + "," + w + ")", x.want(s, w), m.want(s, w)); break; }
            case 1: case 2: case 3: case 4: { int d = in(0, 4), s = in(0, 3), c = in(0, 10); due("chance(" + d + "," + s + "," + c + ")", x.chance(d, s, c), m.chance(d, s, c)); break; }
            case 5: { int n = in(1, r.nextInt(3) == 0 ? 8 : 2); due("cap(" + n + ")", x.cap(n), m.cap(n)); break; }
            case 6: case 7: { int d = in(0, 4), l = in(0, (1 << m.wanted.size()) - 1), w = in(0, 2); due("plan(" + d + "," + l + "," + w + ")", orThrows(() -> x.plan(d, l, w)), orThrows(() -> m.plan(d, l, w))); break; }
            case 8: { int w = in(0, 6); if (r.nextInt(4) == 0) due("fixed(" + w + ")", orThrows(() -> x.fixed(w)), orThrows(() -> m.fixed(w))); break; }
            case 9: case 10: case 11: { int d = in(0, 4), s = in(0, 3); boolean y = yes(); due("came(" + d + "," + s + "," + y + ")", x.came(d, s, y), m.came(d, s, y)); break; }
            case 12: { int w = in(0, 2); if (r.nextInt(4) == 0) due("hindsight(" + w + ")", x.hindsight(w), m.hindsight(w)); break; }
            default: people();
        }
    }

    public static void main(String[] args) {
        long first = Long.getLong("seed", 1);
        for (long seed = first; seed < first + RUNS; seed++) {
            AgainstModelTest one = new AgainstModelTest(seed);
            try {
                one.run();
            } catch (RuntimeException e) {
                System.out.println(one.log);
                System.out.println("seed " + seed + " threw " + e);
                e.printStackTrace(System.out);
                System.exit(1);
            }
            if (one.wrong) {
                System.out.println(one.log);
                System.out.println("seed " + seed + ": the last answer above is not as due");
                System.exit(1);
            }
        }
        System.out.println(RUNS + " runs as the model has them; drops " + made + ", WHY from NONE on "
            + java.util.Arrays.toString(whys) + ", REASON from NONE on " + java.util.Arrays.toString(reasons)
            + ", FAULTS " + java.util.Arrays.toString(faults));
    }
}
