/** Edges of promises 37 to 42: keys taken and given back, film crews, complaints told. */
final class EdgesKey {
    private EdgesKey() { }

    static void all() {
        oneEach();
        keyOrder();
        keys60();
        keyOthers();
        holds();
        holdsOthers();
        out();
        outOthers();
        filmDays();
        films12();
        filmOthers();
        clashes();
        clashesOthers();
        complaints40();
        complainOthers();
    }

    private static final int[] NO_TOWERS = {-1, 2, 4, 6, Edge.MIN, Edge.MAX};

    // -- 37

    private static void oneEach() {
        Edge.term(37, "KEYS: each TOWER's roof has one.");
        Edge.term(37, "one of the PEOPLE TAKES it (if nobody has it) or gives it BACK (who has it).");
        Start s = Start.READY.then(x -> x.key(0, 9, 3, 7, true));
        MenOnCradles x = s.make();
        Edge.yes("another roof's, by the same", x.key(1, 9, 3, 7, true));
        Edge.yes("another roof's, by another", x.key(5, 0, 3, 7, true));
        Edge.refused("taken by another", s, y -> y.key(0, 0, 3, 8, true));
        Edge.refused("taken by himself again", s, y -> y.key(0, 9, 3, 8, true));
        Edge.refused("given back by another", s, y -> y.key(0, 0, 3, 8, false));
        Edge.refused("given back to another roof", s, y -> y.key(1, 9, 3, 8, false));
        for (int p = 0; p < 10; p++) { int who = p; Edge.refused("given back by " + p + ", nobody has it", Start.READY, y -> y.key(0, who, 3, 8, false)); }
        Edge.yes("given back", x.key(0, 9, 3, 7, false));
        Edge.no("given back again", x.key(0, 9, 3, 7, false));
        Edge.yes("taken by another in the same hour", x.key(0, 0, 3, 7, true));
        for (int p : Edge.ends(0, 9)) for (int day : Edge.ends(0, 99)) for (int hour : Edge.ends(0, 23)) {
            MenOnCradles y = Start.READY.make();
            Edge.yes("by " + p + " on " + day + " at " + hour, y.key(5, p, day, hour, true));
            Edge.is("he holds it", p, y.holds(5, day, hour));
            Edge.yes("and gives it back", y.key(5, p, day, hour, false));
            Edge.none("nobody does", y.holds(5, day, hour));
        }
    }

    private static void keyOrder() {
        Edge.term(37, "in order of DAYS, then HOURS (none ahead of the one before):");
        Start s = Start.READY.then(x -> x.key(0, 1, 5, 12, true));
        Edge.refused("an hour ahead", s, x -> x.key(0, 1, 5, 11, false));
        Edge.refused("a day ahead, a later hour", s, x -> x.key(0, 1, 4, 23, false));
        Edge.refused("an hour ahead, another roof's", s, x -> x.key(1, 2, 5, 11, true));
        Edge.refused("day 0, hour 0", s, x -> x.key(1, 2, 0, 0, true));
        Edge.yes("in the same hour", s.make().key(0, 1, 5, 12, false));
        Edge.yes("an hour on", s.make().key(0, 1, 5, 13, false));
        Edge.yes("a day on, an earlier hour", s.make().key(0, 1, 6, 0, false));
        Edge.yes("the last hour", s.make().key(0, 1, 99, 23, false));
        Edge.refused("behind the last hour, one ahead", s.then(x -> x.key(1, 2, 99, 23, true)), x -> x.key(0, 1, 99, 22, false));
    }

    private static void keys60() {
        Edge.term(37, "Lines, 60 at most,");
        Start most = Start.READY.times(59, (x, i) -> x.key(0, i / 2 % 10, 1 + i / 30, i % 30 * 23 / 29, i % 2 == 0));
        MenOnCradles x = most.make();
        Edge.is("59 are there", 59, x.count(9));
        Edge.is("the last takes it", 9, x.holds(0, 99, 23));
        Edge.yes("the 60th", x.key(0, 9, 50, 0, false));
        Edge.is("60 are there", 60, x.count(9));
        Edge.none("it counts", x.holds(0, 50, 0));
        Start full = most.then(y -> y.key(0, 9, 50, 0, false));
        Edge.refused("a 61st", full, y -> y.key(0, 0, 50, 0, true));
        Edge.refused("a 61st, another roof's", full, y -> y.key(5, 0, 99, 23, true));
    }

    private static void keyOthers() {
        Edge.promise(37, "A KEY is TAKEN by a PERSON, or given BACK: true; false: others, ahead of the line before, not his to take or give, 60 are there.");
        for (boolean takes : new boolean[] {true, false}) {
            for (int t : NO_TOWERS) Edge.refused("tower " + t, Start.BUSY, x -> x.key(t, 0, 50, 0, takes));
            for (int p : Edge.beyond(0, 9)) {
                Edge.refused("person " + p + ", a key that is held", Start.BUSY, x -> x.key(0, p, 50, 0, takes));
                Edge.refused("person " + p + ", a key that is not", Start.BUSY, x -> x.key(1, p, 50, 0, takes));
            }
            for (int d : Edge.beyond(0, 99)) Edge.refused("day " + d, Start.BUSY, x -> x.key(takes ? 1 : 0, 0, d, 0, takes));
            for (int h : Edge.beyond(0, 23)) Edge.refused("hour " + h, Start.BUSY, x -> x.key(takes ? 1 : 0, 0, 50, h, takes));
        }
    }

    // -- 38 and 39

    private static void holds() {
        Edge.term(38, "One HOLDS it in an HOUR of a DAY by the lines not behind that HOUR.");
        MenOnCradles x = Start.READY.then(y -> y.key(0, 3, 0, 0, true), y -> y.key(0, 3, 2, 23, false), y -> y.key(0, 0, 3, 0, true),
            y -> y.key(0, 0, 99, 23, false)).make();
        Edge.is("from the first hour", 3, x.holds(0, 0, 0));
        Edge.is("up to the hour ahead of it", 3, x.holds(0, 2, 22));
        Edge.none("given back in that hour", x.holds(0, 2, 23));
        Edge.is("taken in the next", 0, x.holds(0, 3, 0));
        Edge.is("up to the last hour but one", 0, x.holds(0, 99, 22));
        Edge.none("in the last hour", x.holds(0, 99, 23));
        Edge.none("another roof's", x.holds(5, 99, 22));
    }

    private static void holdsOthers() {
        Edge.promise(38, "Who HOLDS a TOWER's KEY in an HOUR; NONE: nobody, others.");
        Edge.none("nobody", Start.READY.make().holds(0, 0, 0));
        for (int t : NO_TOWERS) Edge.refusedNone("tower " + t, Start.BUSY, x -> x.holds(t, 2, 6));
        for (int d : Edge.beyond(0, 99)) Edge.refusedNone("day " + d, Start.BUSY, x -> x.holds(0, d, 6));
        for (int h : Edge.beyond(0, 23)) Edge.refusedNone("hour " + h, Start.BUSY, x -> x.holds(0, 2, h));
    }

    private static void out() {
        Edge.term(39, "OUT of a TOWER up to an HOUR of a DAY: the most HOURS (24 a DAY) from a line that TAKES to the one that gives BACK "
            + "(or up to that HOUR, if it is not BACK by then).");
        MenOnCradles x = Start.READY.then(y -> y.key(0, 3, 0, 0, true)).make();
        Edge.is("just taken", 0, x.out(0, 0, 0));
        Edge.is("an hour on", 1, x.out(0, 0, 1));
        Edge.is("a day on", 24, x.out(0, 1, 0));
        Edge.is("to the end", 2399, x.out(0, 99, 23));
        x.key(0, 3, 1, 1, false);
        Edge.is("not back by then", 24, x.out(0, 1, 0));
        Edge.is("back in that hour", 25, x.out(0, 1, 1));
        Edge.is("no more behind it", 25, x.out(0, 99, 23));
        x.key(0, 4, 1, 1, true);
        Edge.is("taken in the same hour, not longer by then", 25, x.out(0, 2, 2));
        Edge.is("longer", 26, x.out(0, 2, 3));
        x.key(0, 4, 1, 1, false);
        Edge.is("given back in the hour in which it was taken", 25, x.out(0, 2, 3));
        MenOnCradles y = Start.READY.then(z -> z.key(0, 3, 5, 5, true), z -> z.key(0, 3, 5, 5, false)).make();
        Edge.is("no hour", 0, y.out(0, 99, 23));
        Edge.is("ahead of it", 0, y.out(0, 5, 4));
        Edge.is("never", 0, y.out(5, 99, 23));
    }

    private static void outOthers() {
        Edge.promise(39, "OUT; NONE: others.");
        for (int t : NO_TOWERS) Edge.refusedNone("tower " + t, Start.BUSY, x -> x.out(t, 2, 6));
        for (int d : Edge.beyond(0, 99)) Edge.refusedNone("day " + d, Start.BUSY, x -> x.out(0, d, 6));
        for (int h : Edge.beyond(0, 23)) Edge.refusedNone("hour " + h, Start.BUSY, x -> x.out(0, 2, h));
    }

    // -- 40 and 41

    private static void filmDays() {
        Edge.term(40, "on a SIDE of a TOWER on each DAY from one to another one, in the HOURS from one to another one (all both too).");
        for (int side : Edge.ends(0, 3)) {
            Start s = Start.READY.times(5, (x, d) -> x.leave(1, 5 + d, 0, 23)).ruled("rate 12;");
            for (int[] f : new int[][] {{6, 6, 0, 0}, {6, 8, 23, 23}, {6, 8, 0, 23}, {6, 7, 4, 9}}) {
                MenOnCradles x = s.make();
                Edge.yes("a film", x.film(1, side, f[0], f[1], f[2], f[3]));
                for (int d = 5; d <= 9; d++) for (int h : new int[] {0, 1, 3, 4, 9, 10, 22, 23}) {
                    boolean in = f[0] <= d && d <= f[1] && f[2] <= h && h <= f[3];
                    Edge.is("day " + d + ", hour " + h, in ? 13 : 0, x.why(1, side, 0, d, h, 0, 1));
                    Edge.is("another side", 0, x.why(1, 3 - side, 0, d, h, 0, 1));
                }
            }
        }
        MenOnCradles x = Start.READY.make();
        Edge.yes("the first day and hour", x.film(5, 0, 0, 0, 0, 0));
        Edge.yes("the last", x.film(5, 3, 99, 99, 23, 23));
        Edge.yes("all", x.film(5, 3, 0, 99, 0, 23));
    }

    private static void films12() {
        Edge.term(40, "FILMS, 12 at most:");
        Start eleven = Start.BUSY.times(9, (x, i) -> x.film(5, i % 4, i, i, i, i));
        MenOnCradles x = eleven.make();
        Edge.is("11 are there", 11, x.count(10));
        Edge.yes("the 12th", x.film(0, 1, 4, 4, 18, 18));
        Edge.is("12 are there", 12, x.count(10));
        Edge.is("it counts", 13, x.why(0, 1, 0, 4, 18, 0, 1));
        Start full = eleven.then(y -> y.film(0, 1, 4, 4, 18, 18));
        Edge.refused("a 13th", full, y -> y.film(0, 1, 4, 4, 17, 17));
        Edge.refused("a 13th that is there", full, y -> y.film(0, 1, 4, 4, 18, 18));
    }

    private static void filmOthers() {
        Edge.promise(40, "A FILM: true; false: others (from above to), 12 are there.");
        Edge.refused("days from above to by one", Start.BUSY, x -> x.film(0, 0, 4, 3, 0, 23));
        Edge.refused("days from above to", Start.BUSY, x -> x.film(0, 0, 99, 0, 0, 23));
        Edge.refused("hours from above to by one", Start.BUSY, x -> x.film(0, 0, 0, 99, 9, 8));
        Edge.refused("hours from above to", Start.BUSY, x -> x.film(0, 0, 0, 99, 23, 0));
        for (int t : NO_TOWERS) Edge.refused("tower " + t, Start.BUSY, x -> x.film(t, 0, 0, 99, 0, 23));
        for (int s : Edge.beyond(0, 3)) Edge.refused("side " + s, Start.BUSY, x -> x.film(0, s, 0, 99, 0, 23));
        for (int d : Edge.beyond(0, 99)) {
            Edge.refused("from " + d, Start.BUSY, x -> x.film(0, 0, d, 99, 0, 23));
            Edge.refused("to " + d, Start.BUSY, x -> x.film(0, 0, 0, d, 0, 23));
            Edge.refused("both " + d, Start.BUSY, x -> x.film(0, 0, d, d, 0, 23));
        }
        for (int h : Edge.beyond(0, 23)) {
            Edge.refused("first " + h, Start.BUSY, x -> x.film(0, 0, 0, 99, h, 23));
            Edge.refused("last " + h, Start.BUSY, x -> x.film(0, 0, 0, 99, 0, h));
            Edge.refused("both " + h, Start.BUSY, x -> x.film(0, 0, 0, 99, h, h));
        }
    }

    private static void clashes() {
        Edge.term(41, "CLASHES are DROPS that are made, one of whose HOURS is a FILM's, as they are told now.");
        Start s = Start.READY.then(x -> x.drop(5, 2, 0, 1, 10, 0, 1));
        for (int h = 8; h <= 14; h++) {
            int hour = h;
            MenOnCradles x = s.then(y -> y.film(5, 2, 1, 1, hour, hour)).make();
            Edge.is("a film in hour " + h, h >= 10 && h <= 12 ? 1 : 0, x.clashes(5));
        }
        Edge.is("from the hour behind it to the day ahead", 0, s.then(x -> x.film(5, 2, 0, 0, 0, 23), x -> x.film(5, 2, 2, 99, 0, 23),
            x -> x.film(5, 2, 1, 1, 0, 9), x -> x.film(5, 2, 1, 1, 13, 23)).make().clashes(5));
        Edge.is("two films, one drop", 1, s.then(x -> x.film(5, 2, 1, 1, 10, 10), x -> x.film(5, 2, 0, 99, 0, 23)).make().clashes(5));
        Edge.is("on another side", 0, s.then(x -> x.film(5, 1, 0, 99, 0, 23)).make().clashes(5));
        Edge.is("of another tower", 0, s.then(x -> x.film(0, 2, 0, 99, 0, 23)).make().clashes(5));
        Edge.is("hours as they were", 0, s.then(x -> x.film(5, 2, 1, 1, 13, 13)).ruled("rate 1;").make().clashes(5));
        Edge.is("60 of 60", 60, Start.DROPS59.then(x -> x.drop(0, 1, 2, 6, 17, 0, 1), x -> x.film(0, 1, 0, 99, 0, 23)).make().clashes(0));
    }

    private static void clashesOthers() {
        Edge.promise(41, "CLASHES; NONE: no such TOWER told.");
        for (int t : new int[] {0, 1, 5}) Edge.is("none", 0, Start.READY.then(x -> x.film(0, 0, 0, 99, 0, 23)).make().clashes(t));
        for (int t : NO_TOWERS) Edge.refusedNone("tower " + t, Start.BUSY, x -> x.clashes(t));
    }

    // -- 42

    private static void complaints40() {
        Edge.term(42, "COMPLAINTS, 40 at most: of a FLOOR on a SIDE of a TOWER in an HOUR of a DAY.");
        for (int side : Edge.ends(0, 3)) for (int floor : Edge.ends(0, 11)) for (int day : Edge.ends(0, 99)) for (int hour : Edge.ends(0, 23)) {
            MenOnCradles x = Start.READY.make();
            Edge.is("side " + side + ", floor " + floor, 0, x.complain(5, side, floor, day, hour));
            Edge.is("on its weekday", 1, x.week(5, day % 7, 2));
            Edge.is("not ours", 0, x.ours(0, 0));
        }
        Edge.is("of a tower with one floor and column", 0, Start.NEW.then(y -> y.tower(3, 1, 1)).make().complain(3, 0, 0, 0, 0));
        Start most = Start.BUSY.times(35, (x, i) -> x.complain(1, 3, i % 10, i, i % 24));
        MenOnCradles x = most.make();
        Edge.is("39 are there", 39, x.count(11));
        Edge.is("the 40th", 39, x.complain(0, 0, 2, 1, 8));
        Edge.is("40 are there", 40, x.count(11));
        Edge.is("it is ours", 1, x.ours(39, 0));
        Start full = most.then(y -> y.complain(0, 0, 2, 1, 8));
        Edge.refusedNone("a 41st", full, y -> y.complain(0, 0, 1, 1, 8));
        Edge.refusedNone("a 41st that is there", full, y -> y.complain(0, 0, 2, 1, 8));
    }

    private static void complainOthers() {
        Edge.promise(42, "A COMPLAINT: its number; NONE: others, 40 are there.");
        Edge.is("its number", 4, Start.BUSY.make().complain(0, 0, 0, 0, 0));
        for (int t : NO_TOWERS) Edge.refusedNone("tower " + t, Start.BUSY, x -> x.complain(t, 0, 0, 1, 8));
        for (int s : Edge.beyond(0, 3)) Edge.refusedNone("side " + s, Start.BUSY, x -> x.complain(0, s, 0, 1, 8));
        for (int f : Edge.beyond(0, 3)) Edge.refusedNone("floor " + f, Start.BUSY, x -> x.complain(0, 0, f, 1, 8));
        for (int f : Edge.beyond(0, 9)) Edge.refusedNone("floor " + f + " of tower 1", Start.BUSY, x -> x.complain(1, 0, f, 1, 8));
        for (int d : Edge.beyond(0, 99)) Edge.refusedNone("day " + d, Start.BUSY, x -> x.complain(0, 0, 0, d, 8));
        for (int h : Edge.beyond(0, 23)) Edge.refusedNone("hour " + h, Start.BUSY, x -> x.complain(0, 0, 0, 1, h));
    }
}
