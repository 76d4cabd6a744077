import java.util.NoSuchElementException;

/** What can be seen of an object, in parts, for an object is good for 512 calls; the later parts change it by looking. */
final class Look {
    static final int PARTS = 8;
    private static final int[] TOLD = {0, 1, 5};

    interface Asked { long get(); }

    private final MenOnCradles x;
    private final StringBuilder seen = new StringBuilder();
    private int calls = 0;

    private Look(MenOnCradles x) { this.x = x; }

    static int calls(int part) { return at(new MenOnCradles(), part).calls; }

    static String seen(MenOnCradles x, int part) { return at(x, part).seen.toString(); }

    private static Look at(MenOnCradles x, int part) {
        Look l = new Look(x);
        switch (part) {
            case 0: l.panes(); break;
            case 1: l.lateness(); break;
            case 2: l.drops(); break;
            case 3: l.plans(); break;
            case 4: l.keysAndComplaints(); break;
            case 5: l.whys(); break;
            case 6: l.tapeAndEnds(); break;
            default: l.winds();
        }
        return l;
    }

    private void see(long v) {
        seen.append(v).append(' ');
        calls++;
    }

    private void see(boolean v) { see(v ? 1 : 0); }

    private void seeOrThrown(Asked a) {
        try {
            see(a.get());
        } catch (NoSuchElementException e) {
            seen.append("thrown ");
            calls++;
        }
    }

    private void counts() { for (int w = 0; w < 13; w++) see(x.count(w)); }

    private void panes() {
        counts();
        for (int t = 0; t < 6; t++) {
            see(x.stands(t, 1));
            see(x.clashes(t));
            for (int s = 0; s < 4; s++) see(x.cover(t, s, 1));
        }
        for (int s = -1; s < 4; s++) see(x.against(s));
        for (int t : TOLD) {
            for (int s = 0; s < 4; s++) {
                for (int stop = 0; stop < 10; stop += 2) { see(x.reach(t, s, stop, 3)); see(x.reach(t, s, stop, 60)); }
            }
        }
        for (int f = 0; f < 4; f++) for (int c = 0; c < 5; c++) see(x.washed(0, 0, f, c));
        for (int f = 0; f < 10; f++) see(x.washed(1, 2, f, 1));
    }

    private void lateness() {
        for (int t : TOLD) {
            for (int s = 0; s < 4; s++) {
                for (int d : new int[] {0, 2, 3, 99}) { see(x.late(t, s, d, 1)); see(x.late(t, s, d, 3)); see(x.lost(t, s, d)); }
                see(x.reason(t, s, 3, 1, 3, 1));
                see(x.reason(t, s, 1, 2, 3, 2));
                see(x.reason(t, s, 0, 4, 5, 99));
            }
        }
        for (int f = 0; f < 12; f++) for (int c = 0; c < 4; c++) see(x.washed(5, 0, f, c));
        see(x.worst());
    }

    private void drops() {
        for (int i = -1; i < 9; i++) {
            for (int w = 0; w < 12; w++) {
                int drop = i, what = w;
                seeOrThrown(() -> x.made(drop, what));
            }
        }
        for (int t : new int[] {-1, 0, 1, 2, 5}) for (int w = 0; w < 5; w++) see(x.bill(t, 0, 99, w));
        for (int w = 0; w < 3; w++) { see(x.scratch(0, 0, 0, 1, 0, 99, w)); see(x.scratch(5, 0, 3, 3, 0, 99, w)); }
        for (int p = 0; p < 10; p++) {
            see(x.aloft(p, 0, 99));
            see(x.learnt(p, 1));
            see(x.learnt(p, 3));
            see(x.gap(p));
        }
        for (int f = 0; f < 4; f++) for (int c = 0; c < 5; c++) see(x.water(0, 0, f, c, 0, 99));
        for (int f = 0; f < 10; f++) see(x.water(1, 2, f, 1, 0, 99));
        for (int w = 0; w < 5; w++) { int what = w; seeOrThrown(() -> x.tried(what)); }
    }

    private void plans() {
        for (int d = 0; d < 5; d++) {
            for (int left : new int[] {0, 1, 5, 10, 15, 255}) {
                for (int w = 0; w < 3; w++) {
                    int day = d, what = w;
                    seeOrThrown(() -> x.plan(day, left, what));
                }
            }
        }
        for (int w = 0; w < 7; w++) { int what = w; seeOrThrown(() -> x.fixed(what)); }
        for (int w = 0; w < 3; w++) see(x.hindsight(w));
        for (int w = 0; w < 11; w++) see(x.gangs(w));
        see(x.buy(0));
        see(x.buy(1));
        for (int n : new int[] {2, 5, 10}) for (int w = 0; w < 20; w++) see(x.rota(n, w));
    }

    private void keysAndComplaints() {
        for (int t : TOLD) {
            for (int d : new int[] {0, 1, 3, 99}) {
                for (int h : new int[] {0, 5, 6, 7, 23}) { see(x.holds(t, d, h)); see(x.out(t, d, h)); }
            }
            for (int w = 0; w < 7; w++) for (int what = 0; what < 3; what++) see(x.week(t, w, what));
        }
        for (int i = 0; i < 6; i++) { see(x.ours(i, 0)); see(x.ours(i, 1)); }
        for (int b = 0; b < 10; b++) { see(x.band(b, 0)); see(x.band(b, 1)); }
        see(x.worst());
    }

    private void whys() {
        for (int t : TOLD) {
            for (int s = 0; s < 4; s += 3) {
                for (int stop : new int[] {0, 2}) {
                    for (int d : new int[] {1, 3, 4}) {
                        for (int h : new int[] {9, 11, 12}) { see(x.why(t, s, stop, d, h, 0, 1)); see(x.why(t, s, stop, d, h, 2, 3)); }
                    }
                }
            }
        }
        for (int p = 0; p < 10; p++) { see(x.why(0, 1, 0, 4, 18, 0, p)); see(x.why(0, 1, 0, 4, 18, p, 2)); }
    }

    /** The tape read, the next of all that is numbered, and all marks gone back to, the last one first. */
    private void tapeAndEnds() {
        counts();
        see(x.feed(0, 0, 0));
        see(x.rule());
        see(x.why(0, 1, 0, 4, 18, 0, 1));
        see(x.drop(0, 1, 0, 4, 18, 0, 1));
        see(x.want(1, 50));
        see(x.row(0, 0, 0, 1, 8, 0, 1));
        see(x.complain(0, 0, 0, 1, 8));
        see(x.key(0, 0, 50, 0, false));
        see(x.key(0, 7, 50, 0, true));
        see(x.film(0, 0, 0, 1, 0, 1));
        see(x.nest(0, 0, 0, 0, 0, 1));
        see(x.leave(0, 90, 0, 1));
        counts();
        for (int k = 3; k >= 0; k--) {
            see(x.mark(k, true));
            see(x.count(1));
            for (int t : TOLD) see(x.stands(t, 1));
            for (int c = 0; c < 5; c++) see(x.washed(0, 0, 0, c));
            for (int p = 0; p < 4; p++) see(x.aloft(p, 0, 99));
        }
    }

    /** Which hours have wind, by a rule that stops by it, on all days with leave. */
    private void winds() {
        x.rule();
        Texts.rule(x, "stop when 0<wind;");
        calls += 4;
        for (int s = 0; s < 4; s++) {
            for (int d = 0; d < 8; d++) { see(x.lost(0, s, d)); see(x.lost(1, s, d)); }
            see(x.lost(5, s, 1));
        }
        for (int limit = 10; limit < 100; limit += 30) {
            Texts.rule(x, "stop when " + limit + "<wind;");
            calls += 3;
            for (int s = 0; s < 4; s++) for (int d = 1; d < 4; d++) { see(x.lost(0, s, d)); see(x.lost(1, s, d)); }
        }
        see(x.reach(0, 0, 0, 2));
        see(x.leave(0, 99, 0, 23));
        for (int s = 0; s < 4; s++) see(x.lost(0, s, 99));
    }
}
