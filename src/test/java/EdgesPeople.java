/** Edges of promises 31 to 36: gangs of elder and learner, cradles to be bought, rotas. */
final class EdgesPeople {
    private EdgesPeople() { }

    static void all() {
        together();
        matchOthers();
        ofTheFewer();
        leastElder();
        gangsOthers();
        offers();
        offerOthers();
        buyLeast();
        buyMany();
        buyOthers();
        away();
        onCall();
        awayOnCall();
        rotaOthers();
    }

    // -- 31

    private static void together() {
        Edge.term(31, "GANGS: of each two PEOPLE how they go together (0 to 99; 0 at first):");
        for (int other : Edge.ends(0, 8)) {
            MenOnCradles x = Start.NEW.then(y -> y.elder(9, true)).make();
            Edge.is("0 at first", 0, x.gangs(0));
            for (int n : new int[] {99, 0, 1}) {
                Edge.yes("told " + n, x.match(other, 9, n));
                Edge.is("it counts", n, x.gangs(0));
                Edge.yes("the other way round " + (99 - n), x.match(9, other, 99 - n));
                Edge.is("it counts", 99 - n, x.gangs(0));
            }
        }
        MenOnCradles most = Start.NEW.times(5, (y, p) -> y.elder(p, true)).times(25, (y, i) -> y.match(i / 5, 5 + i % 5, 99)).make();
        Edge.is("the most that can be", 495, most.gangs(0));
        Edge.yes("two elders", most.match(0, 1, 99));
        Edge.yes("two others", most.match(8, 9, 99));
        Edge.is("are no gang", 495, most.gangs(0));
    }

    private static void matchOthers() {
        Edge.promise(31, "How two PEOPLE go together: true; false: others, the same.");
        for (int p : Edge.beyond(0, 9)) {
            Edge.refused("the first " + p, Start.BUSY, x -> x.match(p, 1, 5));
            Edge.refused("the second " + p, Start.BUSY, x -> x.match(0, p, 5));
            Edge.refused("both " + p, Start.BUSY, x -> x.match(p, p, 5));
        }
        for (int p = 0; p < 10; p++) { int who = p; Edge.refused(p + " with himself", Start.BUSY, x -> x.match(who, who, 5)); }
        for (int n : Edge.beyond(0, 99)) Edge.refused("as " + n, Start.BUSY, x -> x.match(0, 1, n));
    }

    // -- 32

    private static void gang(String what, MenOnCradles x, int sum, int... with) {
        Edge.is(what + ", sum", sum, x.gangs(0));
        for (int p = 0; p < 10; p++) Edge.is(what + ", with " + p, with[p], x.gangs(1 + p));
    }

    private static void ofTheFewer() {
        Edge.term(32, "each of the others (not elders) with an elder of his own, as many as there are of the fewer, so that the sum is the greatest;");
        gang("no elders", new MenOnCradles(), 0, -1, -1, -1, -1, -1, -1, -1, -1, -1, -1);
        gang("all elders", Start.NEW.times(10, (x, p) -> x.elder(p, true)).make(), 0, -1, -1, -1, -1, -1, -1, -1, -1, -1, -1);
        gang("one elder", Start.NEW.then(x -> x.elder(0, true)).make(), 0, 1, 0, -1, -1, -1, -1, -1, -1, -1, -1);
        gang("one other", Start.NEW.times(9, (x, p) -> x.elder(p, true)).make(), 0, 9, -1, -1, -1, -1, -1, -1, -1, -1, 0);
        gang("as many of both", Start.NEW.times(5, (x, p) -> x.elder(p, true)).make(), 0, 5, 6, 7, 8, 9, 0, 1, 2, 3, 4);
        gang("one elder less", Start.NEW.times(4, (x, p) -> x.elder(p, true)).make(), 0, 4, 5, 6, 7, 0, 1, 2, 3, -1, -1);
        gang("one elder more", Start.NEW.times(6, (x, p) -> x.elder(p, true)).make(), 0, 6, 7, 8, 9, -1, -1, 0, 1, 2, 3);
        gang("the greatest is not the greatest first", Start.NEW.times(8, (x, p) -> x.elder(p, true)).then(x -> x.match(0, 8, 10),
            x -> x.match(1, 8, 9), x -> x.match(0, 9, 9)).make(), 18, 9, 8, -1, -1, -1, -1, -1, -1, 1, 0);
        MenOnCradles told = Start.NEW.then(x -> x.elder(0, true), x -> x.match(0, 9, 5), x -> x.match(1, 9, 6)).make();
        gang("asked ahead", told, 5, 9, -1, -1, -1, -1, -1, -1, -1, -1, 0);
        told.elder(1, true);
        gang("an elder more", told, 6, 2, 9, 0, -1, -1, -1, -1, -1, -1, 1);
        told.match(0, 2, 0);
        told.match(0, 3, 1);
        gang("told how they go together", told, 7, 3, 9, -1, 0, -1, -1, -1, -1, -1, 1);
        told.elder(1, false);
        gang("an elder less", told, 5, 9, -1, -1, -1, -1, -1, -1, -1, -1, 0);
        gang("as many as there are, though two bring nothing", Start.NEW.times(2, (x, p) -> x.elder(p, true)).then(x -> x.match(0, 9, 1)).make(),
            1, 9, 2, 1, -1, -1, -1, -1, -1, -1, 0);
    }

    private static void leastElder() {
        Edge.term(32, "of equal ones by the first of the others the least elder (none behind all), then by the second, and so on.");
        Start two = Start.NEW.then(x -> x.elder(8, true), x -> x.elder(9, true));
        gang("all are equal", two.make(), 0, 8, 9, -1, -1, -1, -1, -1, -1, 0, 1);
        gang("the first with the least, though the second might be", two.then(x -> x.match(1, 8, 3), x -> x.match(0, 8, 3)).make(),
            3, 8, 9, -1, -1, -1, -1, -1, -1, 0, 1);
        gang("the first has one, the second none", two.then(x -> x.match(0, 9, 5), x -> x.match(1, 9, 5), x -> x.match(2, 8, 5)).make(),
            10, 9, -1, 8, -1, -1, -1, -1, -1, 2, 0);
        gang("none for the first alone, if it is more", two.then(x -> x.match(1, 8, 5), x -> x.match(2, 9, 5)).make(),
            10, -1, 8, 9, -1, -1, -1, -1, -1, 1, 2);
        gang("by the second", two.then(x -> x.match(0, 9, 5)).make(), 5, 9, 8, -1, -1, -1, -1, -1, -1, 1, 0);
    }

    private static void gangsOthers() {
        Edge.promise(32, "GANGS, what 0: the sum, 1 + p: who goes with PERSON p (NONE: nobody). NONE: another what.");
        MenOnCradles x = Start.NEW.then(y -> y.elder(9, true)).make();
        Edge.is("with 0", 9, x.gangs(1));
        Edge.is("with 9", 0, x.gangs(10));
        Edge.none("with 8, nobody", x.gangs(9));
        for (int what : Edge.beyond(0, 10)) Edge.refusedNone("what " + what, Start.BUSY, y -> y.gangs(what));
        Edge.refused("gangs that are found", Start.BUSY, y -> y.gangs(0) != 9);
    }

    // -- 33

    private static void offers() {
        Edge.term(33, "OFFERS 0 to 7 of CRADLES: a cost (0 to 9999) and the TOWERS that it fits (as bits), for MANY (1 to 6) of them at most.");
        Edge.promise(33, "An OFFER (many 0: none any more): true; false: others.");
        for (int offer : Edge.ends(0, 7)) for (int cost : Edge.ends(0, 9999)) for (int many : Edge.ends(1, 6)) {
            for (int tower : Edge.ends(0, 5)) {
                MenOnCradles x = Start.NEW.then(y -> y.tower(tower, 1, 1)).make();
                Edge.yes("offer", x.offer(offer, cost, 1 << tower, many));
                Edge.is("its cost", cost, x.buy(0));
                Edge.is("it is bought", 1 << offer, x.buy(1));
                Edge.is("one", 1, x.count(5));
                Edge.yes("told again, for none of the towers", x.offer(offer, cost, 0, many));
                Edge.none("it does not fit", x.buy(0));
                Edge.is("one still", 1, x.count(5));
                Edge.yes("for all", x.offer(offer, cost, 63, many));
                Edge.is("it fits", cost, x.buy(0));
                Edge.yes("none any more", x.offer(offer, cost, 63, 0));
                Edge.is("none", 0, x.count(5));
                Edge.none("none does", x.buy(1));
                Edge.yes("none any more, again", x.offer(offer, 0, 0, 0));
                Edge.is("none still", 0, x.count(5));
            }
        }
        MenOnCradles all = Start.NEW.times(8, (y, o) -> y.offer(o, o, 63, 6)).make();
        Edge.is("all eight", 8, all.count(5));
    }

    private static void offerOthers() {
        Edge.promise(33, "An OFFER (many 0: none any more): true; false: others.");
        for (int o : Edge.beyond(0, 7)) {
            Edge.refused("offer " + o, Start.BUSY, x -> x.offer(o, 1, 1, 1));
            Edge.refused("offer " + o + ", none any more", Start.BUSY, x -> x.offer(o, 1, 1, 0));
        }
        for (int c : Edge.beyond(0, 9999)) Edge.refused("cost " + c, Start.BUSY, x -> x.offer(0, c, 1, 1));
        for (int t : Edge.beyond(0, 63)) Edge.refused("towers " + t, Start.BUSY, x -> x.offer(0, 1, t, 1));
        for (int m : Edge.beyond(0, 6)) Edge.refused("many " + m, Start.BUSY, x -> x.offer(0, 1, 1, m));
    }

    // -- 34

    private static void bought(String what, MenOnCradles x, int cost, int offers) {
        Edge.is(what + ", cost", cost, x.buy(0));
        Edge.is(what + ", offers", offers, x.buy(1));
    }

    private static void buyLeast() {
        Edge.term(34, "BUY: the least cost of OFFERS (each once) by which each TOWER told has one");
        Edge.term(34, "of equal ones the least as bits.");
        bought("no tower, no offer", new MenOnCradles(), 0, 0);
        bought("no tower, all for nothing", Start.NEW.times(8, (x, o) -> x.offer(o, 0, 63, 6)).make(), 0, 0);
        Start one = Start.NEW.then(x -> x.tower(5, 1, 1));
        bought("a tower, no offer", one.make(), -1, -1);
        bought("the least of eight", one.times(8, (x, o) -> x.offer(o, 9 - o, 32, 1)).make(), 2, 128);
        bought("of eight equal ones the first", one.times(8, (x, o) -> x.offer(o, 9999, 32, 1)).make(), 9999, 1);
        bought("for nothing, the first", one.times(8, (x, o) -> x.offer(o, 0, 32, 1)).make(), 0, 1);
        Start two = one.then(x -> x.tower(0, 1, 1));
        bought("two small ones are less as bits than a great one", two.then(x -> x.offer(0, 5, 1, 1), x -> x.offer(1, 5, 32, 1),
            x -> x.offer(2, 10, 33, 2)).make(), 10, 3);
        bought("a great one is less as bits", two.then(x -> x.offer(6, 5, 1, 1), x -> x.offer(7, 5, 32, 1), x -> x.offer(5, 10, 33, 2)).make(), 10, 32);
        bought("each once", two.then(x -> x.offer(0, 1, 33, 1)).make(), -1, -1);
        bought("all six for the most", Start.NEW.times(6, (x, t) -> x.tower(t, 1, 1)).times(6, (x, o) -> x.offer(o, 9999, 1 << 5 - o, 1)).make(),
            59994, 63);
    }

    private static void buyMany() {
        Edge.term(34, "(each for MANY at most);");
        for (int towers = 1; towers <= 6; towers++) {
            for (int many = 1; many <= 6; many++) {
                int n = many;
                MenOnCradles x = Start.NEW.times(towers, (y, t) -> y.tower(t, 1, 1)).then(y -> y.offer(4, 7, 63, n)).make();
                bought(many + " for " + towers, x, many >= towers ? 7 : -1, many >= towers ? 16 : -1);
            }
        }
        Start six = Start.NEW.times(6, (y, t) -> y.tower(t, 1, 1));
        bought("two for three each", six.then(x -> x.offer(0, 4, 63, 3), x -> x.offer(1, 4, 63, 3)).make(), 8, 3);
        bought("both want the same three", six.then(x -> x.offer(0, 4, 7, 3), x -> x.offer(1, 4, 7, 3)).make(), -1, -1);
        bought("one fits five, the other the sixth", six.then(x -> x.offer(0, 4, 31, 6), x -> x.offer(1, 4, 63, 1)).make(), 8, 3);
        bought("a sixth that does not fit", six.then(x -> x.offer(0, 4, 31, 6), x -> x.offer(1, 4, 31, 6)).make(), -1, -1);
    }

    private static void buyOthers() {
        Edge.promise(34, "BUY, what 0: cost, 1: OFFERS as bits; NONE: none does, another what.");
        for (int what : Edge.ends(0, 1)) Edge.refusedNone("none does", Start.BUSY.then(x -> x.offer(0, 1, 1, 0), x -> x.offer(7, 1, 1, 0)), x -> x.buy(what));
        for (Start s : new Start[] {Start.NEW, Start.BUSY}) for (int what : Edge.beyond(0, 1)) Edge.refusedNone("what " + what, s, x -> x.buy(what));
        Edge.refused("what is bought", Start.BUSY, x -> x.buy(0) != 50);
    }

    // -- 35 and 36

    private static void away() {
        Edge.promise(35, "One is AWAY in a week (0 to 19) or not: true; false: others.");
        for (int p : Edge.ends(0, 9)) for (int w : Edge.ends(0, 19)) {
            MenOnCradles x = Start.NEW.make();
            int before = x.rota(10, w);
            Edge.yes("not away, told so", x.away(p, w, false));
            Edge.is("nothing changes", before, x.rota(10, w));
            Edge.yes("away", x.away(p, w, true));
            Edge.is("he is not on call", 0, x.rota(10, w) >> p & 1);
            Edge.is("two are", 2, Integer.bitCount(x.rota(10, w)));
            Edge.yes("not away any more", x.away(p, w, false));
            Edge.is("as ahead", before, x.rota(10, w));
        }
        for (boolean yes : new boolean[] {true, false}) {
            for (int p : Edge.beyond(0, 9)) Edge.refused("person " + p, Start.BUSY, x -> x.away(p, 0, yes));
            for (int w : Edge.beyond(0, 19)) Edge.refused("week " + w, Start.BUSY, x -> x.away(0, w, yes));
        }
        Edge.refused("a week 32 on from one that is told", Start.BUSY, x -> x.away(0, 32, false));
    }

    private static void onCall() {
        Edge.term(36, "ROTA: of n PEOPLE (2 to 10) in w weeks (1 to 20) two are on call each:");
        Edge.term(36, "on weeks 0, 1, .. the two with the fewest weeks, of equal ones those whose last week is the longest ago (never ahead of all), then the least;");
        MenOnCradles x = new MenOnCradles();
        int[] five = {3, 12, 17, 6, 24};
        for (int w = 0; w < 20; w++) {
            Edge.is("of two, week " + w, 3, x.rota(2, w));
            Edge.is("of four, week " + w, w % 2 == 0 ? 3 : 12, x.rota(4, w));
            Edge.is("of ten, week " + w, 3 << w % 5 * 2, x.rota(10, w));
            Edge.is("of five, week " + w, five[w % 5], x.rota(5, w));
        }
        MenOnCradles y = Start.NEW.then(z -> z.away(0, 0, true), z -> z.away(1, 1, true), z -> z.away(1, 2, true)).make();
        // Week 0: 1 and 2. Week 1: 0 first, never; of 2 and 1 (away) 2. Week 2: 0 and 2, for 1 is away. Week 3: 1, fewest; then 0.
        MenOnCradles last = Start.NEW.then(z -> z.away(0, 0, true), z -> z.away(1, 0, true)).make();
        int[] longest = {12, 3, 12, 3, 12};
        for (int w = 0; w < 5; w++) Edge.is("the longest ago, week " + w, longest[w], last.rota(4, w));
        int[] never = {12, 3, 48, 12, 3};
        for (int w = 0; w < 5; w++) Edge.is("never ahead of all, week " + w, never[w], last.rota(6, w));
        int[] due = {6, 5, 5, 3};
        for (int w = 0; w < 4; w++) Edge.is("the fewest weeks, week " + w, due[w], y.rota(3, w));
    }

    private static void awayOnCall() {
        Edge.term(36, "those AWAY (told by weeks) are passed over.");
        Edge.promise(36, "ROTA of n PEOPLE: who is on call in a week, as bits (fewer than two if others are AWAY);");
        for (int week : Edge.ends(0, 19)) {
            MenOnCradles x = new MenOnCradles();
            for (int p = 0; p < 9; p++) {
                x.away(p, week, true);
                Edge.is("none of " + p + " and those ahead is on call", 0, x.rota(10, week) & (2 << p) - 1);
                Edge.is("so many are", Math.min(2, 9 - p), Integer.bitCount(x.rota(10, week)));
            }
            Edge.is("9 alone", 512, x.rota(10, week));
            Edge.is("of nine, nobody", 0, x.rota(9, week));
            x.away(9, week, true);
            Edge.is("nobody at all", 0, x.rota(10, week));
            Edge.is("in the weeks beside all are there", 2, Integer.bitCount(x.rota(10, week == 0 ? 1 : 18)));
        }
    }

    private static void rotaOthers() {
        Edge.promise(36, "NONE: others.");
        for (int n : Edge.beyond(2, 10)) Edge.refusedNone("of " + n, Start.BUSY, x -> x.rota(n, 0));
        for (int w : Edge.beyond(0, 19)) Edge.refusedNone("week " + w, Start.BUSY, x -> x.rota(5, w));
        Edge.refused("a rota that is made", Start.BUSY, x -> x.rota(10, 19) < 0);
    }
}
