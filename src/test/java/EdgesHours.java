/** Edges of promises 43 to 50: complaints by weather and weekday, water by pane, hours aloft. */
final class EdgesHours {
    private EdgesHours() { }

    private static final int[] NO_TOWERS = {-1, 2, 4, 6, Edge.MIN, Edge.MAX};

    static void all() {
        passes();
        oursOthers();
        bands();
        bandCounts();
        bandOthers();
        worst();
        worstNone();
        week();
        weekOthers();
        water();
        waterOthers();
        aloft();
        aloftOthers();
        learnt();
        learntOthers();
        gap();
        gapOthers();
    }

    // -- 43

    private static void passes() {
        Edge.term(43, "It is OURS if a DROP there passes that FLOOR in that HOUR: in its k-th HOUR (from 0) it passes the FLOORS below "
            + "FLOORS - rate * k, so many as rate, those that there are.");
        for (int rate : new int[] {1, 4, 5, 7, 11, 12}) {
            Start s = Start.READY.ruled("rate " + rate + ";").then(x -> x.drop(5, 2, 0, 1, 2, 0, 1));
            int hours = (12 + rate - 1) / rate;
            for (int k = -1; k <= hours; k++) {
                MenOnCradles x = s.make();
                for (int f = 0; f < 12; f++) {
                    x.complain(5, 2, f, 1, 2 + k);
                    boolean passed = k >= 0 && k < hours && f < 12 - rate * k && f >= 12 - rate * k - rate;
                    Edge.is("rate " + rate + ", hour " + k + ", floor " + f, passed ? 1 : 0, x.ours(f, 0));
                }
            }
        }
        MenOnCradles x = Start.READY.then(y -> y.drop(5, 2, 0, 1, 2, 0, 1), y -> y.complain(5, 1, 11, 1, 2), y -> y.complain(5, 2, 11, 0, 2),
            y -> y.complain(5, 2, 11, 2, 2), y -> y.complain(1, 2, 9, 1, 2), y -> y.complain(5, 2, 11, 1, 2)).make();
        int[] due = {0, 0, 0, 0, 1};
        for (int i = 0; i < 5; i++) Edge.is("there: its tower, side and day, " + i, due[i], x.ours(i, 0));
    }

    private static void oursOthers() {
        Edge.promise(43, "DROPS by which a COMPLAINT is OURS, what 0: how many, 1: the first; NONE: none such, another what, none (1).");
        MenOnCradles x = Start.READY.then(y -> y.drop(1, 2, 0, 1, 2, 0, 1), y -> y.drop(0, 2, 0, 1, 8, 0, 1), y -> y.complain(0, 2, 3, 1, 8),
            y -> y.complain(0, 2, 3, 1, 9)).make();
        Edge.is("one", 1, x.ours(0, 0));
        Edge.is("the first is drop 1", 1, x.ours(0, 1));
        Edge.is("none", 0, x.ours(1, 0));
        Edge.none("no first", x.ours(1, 1));
        for (int what = 0; what < 2; what++) {
            int w = what;
            Edge.refusedNone("no complaint at all", Start.READY, y -> y.ours(0, w));
            for (int i : Edge.beyond(0, 3)) Edge.refusedNone("complaint " + i + " of four", Start.BUSY, y -> y.ours(i, w));
        }
        Edge.is("the last of four", 0, Start.BUSY.make().ours(3, 0));
        for (int what : Edge.beyond(0, 1)) Edge.refusedNone("what " + what, Start.BUSY, y -> y.ours(0, what));
    }

    // -- 44

    private static void bands() {
        Edge.term(44, "BANDS 0 to 9 of WIND are WIND by 10, cut.");
        for (int wind = 0; wind < 100; wind++) {
            int w = wind;
            MenOnCradles x = Start.READY.then(y -> y.drop(0, 3, 0, 1, 8, 0, 1), y -> y.wind(3, 1, 8, w)).make();
            if (wind % 10 > 0 && wind % 10 < 9) continue;
            for (int b = 0; b < 10; b++) Edge.is("wind " + wind + ", band " + b, wind / 10 == b ? 1 : 0, x.band(b, 0));
            Edge.is("the only band", wind / 10, x.worst());
        }
    }

    private static void bandCounts() {
        Edge.term(44, "Of a BAND: HOURS of DROPS in it, COMPLAINTS that are OURS in it (by WIND on the SIDE in the HOUR, as told now).");
        Start s = Start.READY.then(x -> x.drop(5, 3, 0, 1, 8, 0, 1), x -> x.wind(3, 1, 7, 11), x -> x.wind(3, 1, 8, 9), x -> x.wind(3, 1, 9, 10),
            x -> x.wind(3, 1, 10, 99), x -> x.wind(3, 1, 11, 22), x -> x.wind(2, 1, 9, 33), x -> x.wind(3, 2, 9, 44),
            x -> x.complain(5, 3, 11, 1, 8), x -> x.complain(5, 3, 7, 1, 9), x -> x.complain(5, 3, 4, 1, 9), x -> x.complain(5, 3, 3, 1, 9),
            x -> x.complain(5, 3, 0, 1, 10), x -> x.complain(5, 3, 0, 1, 11), x -> x.complain(5, 2, 7, 1, 9));
        int[] hours = {1, 1, 0, 0, 0, 0, 0, 0, 0, 1};
        int[] ours = {1, 2, 0, 0, 0, 0, 0, 0, 0, 1};
        MenOnCradles x = s.make();
        for (int b = 0; b < 10; b++) {
            Edge.is("hours in band " + b, hours[b], x.band(b, 0));
            Edge.is("ours in band " + b, ours[b], x.band(b, 1));
        }
        x.wind(3, 1, 9, 95);
        Edge.is("as told now, hours", 2, x.band(9, 0));
        Edge.is("as told now, ours", 3, x.band(9, 1));
        Edge.is("none where they were, hours", 0, x.band(1, 0));
        Edge.is("none where they were, ours", 0, x.band(1, 1));
        MenOnCradles most = Start.NEW.then(y -> y.tower(0, 12, 1), y -> y.elder(0, true), y -> y.drill(0, 0), y -> y.drill(1, 0))
            .times(60, (y, d) -> y.leave(0, d, 0, 23)).ruled("rate 1;drill 99;").times(60, (y, d) -> y.drop(0, 0, 0, d, 12, 0, 1)).make();
        Edge.is("60 drops of 12 hours", 720, most.band(0, 0));
    }

    private static void bandOthers() {
        Edge.promise(44, "Of a BAND, what 0: HOURS, 1: COMPLAINTS that are OURS; NONE: others.");
        for (int what = 0; what < 2; what++) {
            int w = what;
            for (int b : Edge.ends(0, 9)) Edge.is("none in band " + b, 0, Start.READY.make().band(b, what));
            for (int b : Edge.beyond(0, 9)) Edge.refusedNone("band " + b, Start.BUSY, x -> x.band(b, w));
        }
        for (int what : Edge.beyond(0, 1)) Edge.refusedNone("what " + what, Start.BUSY, x -> x.band(0, what));
    }

    // -- 45

    private static void worst() {
        Edge.term(45, "WORST is the BAND with the greatest part of these by those HOURS (of BANDS with HOURS); of equal ones the least.");
        Start s = Start.READY.then(x -> x.drop(5, 3, 0, 1, 8, 0, 1), x -> x.drop(0, 0, 0, 1, 11, 0, 1), x -> x.wind(3, 1, 8, 20),
            x -> x.wind(3, 1, 9, 29), x -> x.wind(3, 1, 10, 90), x -> x.wind(0, 1, 11, 50));
        Edge.is("no complaints: the least with hours", 2, s.make().worst());
        Edge.is("1 by 2 hours", 2, s.then(x -> x.complain(5, 3, 11, 1, 8)).make().worst());
        Start one = s.then(x -> x.complain(5, 3, 0, 1, 10));
        Edge.is("1 by 1 hour", 9, one.make().worst());
        Edge.is("of equal ones the least", 5, one.then(x -> x.complain(0, 0, 0, 1, 11)).make().worst());
        Edge.is("2 by 2 hours is equal", 2, one.then(x -> x.complain(5, 3, 11, 1, 8), x -> x.complain(5, 3, 11, 1, 8)).make().worst());
        Edge.is("1 by 2 is less", 9, one.then(x -> x.complain(5, 3, 11, 1, 8)).make().worst());
        Edge.is("3 by 2 is more", 2, one.then(x -> x.complain(5, 3, 11, 1, 8), x -> x.complain(5, 3, 11, 1, 8), x -> x.complain(5, 3, 4, 1, 9)).make().worst());
        Edge.is("2 by 2 hours, then 1 by 1", 2, s.then(x -> x.complain(5, 3, 11, 1, 8), x -> x.complain(5, 3, 7, 1, 9), x -> x.complain(5, 3, 0, 1, 10)).make().worst());
        Start wide = s.then(x -> x.drop(0, 1, 0, 1, 12, 0, 1), x -> x.drop(0, 1, 0, 1, 13, 0, 1), x -> x.wind(1, 1, 12, 70), x -> x.wind(1, 1, 13, 71));
        Edge.is("2 by 2 hours, then 1 by 2", 2, wide.then(x -> x.complain(5, 3, 11, 1, 8), x -> x.complain(5, 3, 7, 1, 9), x -> x.complain(0, 1, 0, 1, 12)).make().worst());
        Edge.is("1 by 2 hours, then 2 by 2", 7, wide.then(x -> x.complain(5, 3, 11, 1, 8), x -> x.complain(0, 1, 0, 1, 13), x -> x.complain(0, 1, 0, 1, 12)).make().worst());
        Edge.is("what is not ours is none", 9, one.times(9, (x, i) -> x.complain(1, 0, i, 1, 8)).make().worst());
        Edge.is("the wind told again", 1, one.then(x -> x.wind(3, 1, 10, 19)).make().worst());
    }

    private static void worstNone() {
        Edge.promise(45, "The WORST BAND; NONE: no HOURS.");
        Edge.none("nothing", new MenOnCradles().worst());
        Edge.refusedNone("complaints, no drop", Start.READY.then(x -> x.complain(0, 0, 0, 1, 8)), x -> x.worst());
        Edge.none("drops that are gone", Start.READY.then(x -> x.mark(0, false), x -> x.drop(0, 0, 0, 1, 8, 0, 1), x -> x.mark(0, true)).make().worst());
        Edge.is("an hour", 0, Start.READY.then(x -> x.drop(0, 0, 0, 1, 8, 0, 1)).make().worst());
    }

    // -- 46

    private static void week() {
        Edge.term(46, "Of a weekday on a TOWER: DROPS, HOURS, COMPLAINTS.");
        Edge.promise(46, "Of a weekday (0 to 6) on a TOWER, what 0: DROPS, 1: HOURS, 2: COMPLAINTS;");
        for (int day : new int[] {0, 6, 7, 13, 92, 97, 98, 99}) {
            MenOnCradles x = Start.READY.then(y -> y.leave(1, day, 8, 10), y -> y.complain(1, 3, 9, day, 0)).ruled("drill 99;")
                .then(y -> y.drop(1, 3, 0, day, 8, 0, 1)).make();
            for (int w = 0; w < 7; w++) {
                int in = day % 7 == w ? 1 : 0;
                Edge.is("day " + day + ", drops on " + w, in, x.week(1, w, 0));
                Edge.is("hours on " + w, 3 * in, x.week(1, w, 1));
                Edge.is("complaints on " + w + ", though not ours", in, x.week(1, w, 2));
                for (int what = 0; what < 3; what++) Edge.is("another tower's", 0, x.week(0, w, what));
            }
        }
        MenOnCradles x = Start.DROPS59.make();
        int[] due = {0, 10, 10, 10, 10, 10, 9};
        for (int w = 0; w < 7; w++) Edge.is("of 59, on " + w, due[w], x.week(0, w, 0));
    }

    private static void weekOthers() {
        Edge.promise(46, "NONE: others.");
        for (int what = 0; what < 3; what++) {
            int n = what;
            for (int t : NO_TOWERS) Edge.refusedNone("tower " + t, Start.BUSY, x -> x.week(t, 1, n));
            for (int w : Edge.beyond(0, 6)) Edge.refusedNone("weekday " + w, Start.BUSY, x -> x.week(0, w, n));
        }
        for (int what : Edge.beyond(0, 2)) Edge.refusedNone("what " + what, Start.BUSY, x -> x.week(0, 1, what));
    }

    // -- 47

    private static void water() {
        Edge.term(47, "WATER of a PANE: of each DROP that REACHED it, water by PANES, cut; what is left goes one by one to the PANES that it "
            + "REACHED, by COLUMNS, in each from the highest FLOOR down.");
        for (int water : new int[] {0, 1, 5, 6, 7, 8, 13, 14, 9999}) {
            MenOnCradles x = Start.NEW.then(y -> y.tower(0, 4, 3), y -> y.elder(0, true), y -> y.drill(0, 1), y -> y.drill(1, 1), y -> y.leave(0, 1, 0, 23),
                y -> y.block(0, 0, 3, 0, true)).ruled("water " + water + ";").then(y -> y.drop(0, 0, 0, 1, 0, 0, 1)).make();
            int[][] order = {{2, 0}, {1, 0}, {0, 0}, {3, 1}, {2, 1}, {1, 1}, {0, 1}};
            int sum = 0;
            for (int i = 0; i < 7; i++) {
                int due = water / 7 + (i < water % 7 ? 1 : 0);
                Edge.is("water " + water + ", pane " + i, due, x.water(0, 0, order[i][0], order[i][1], 1, 1));
                sum += due;
            }
            Edge.is("all of it", water, sum);
            Edge.is("none on what is blocked", 0, x.water(0, 0, 3, 0, 0, 99));
            Edge.is("none beyond", 0, x.water(0, 0, 3, 2, 0, 99));
        }
        MenOnCradles one = Start.NEW.then(y -> y.tower(0, 1, 1), y -> y.elder(0, true), y -> y.drill(0, 1), y -> y.drill(1, 1), y -> y.leave(0, 1, 0, 23))
            .ruled("water 9999*9999*21+9999*4790+8416;").then(y -> y.drop(0, 0, 0, 1, 0, 0, 1)).make();
        Edge.is("the most on one pane", Edge.MAX, one.water(0, 0, 0, 0, 0, 99));
        MenOnCradles x = Start.READY.ruled("water 8;").then(y -> y.drop(0, 0, 0, 1, 8, 0, 1), y -> y.drop(0, 0, 1, 3, 8, 0, 1)).make();
        int[][] due = {{0, 0, 0}, {0, 1, 1}, {1, 1, 1}, {1, 2, 1}, {1, 3, 2}, {2, 2, 0}, {2, 3, 1}, {3, 3, 1}, {4, 99, 0}, {0, 99, 2}};
        for (int[] d : due) Edge.is("from " + d[0] + " to " + d[1], d[2], x.water(0, 0, 0, 1, d[0], d[1]));
    }

    private static void waterOthers() {
        Edge.promise(47, "WATER of a PANE in DROPS of DAYS from to to; NONE: others.");
        Edge.refusedNone("from above to by one", Start.BUSY, x -> x.water(0, 0, 0, 0, 2, 1));
        Edge.refusedNone("from above to", Start.BUSY, x -> x.water(0, 0, 0, 0, 99, 0));
        for (int d : Edge.beyond(0, 99)) {
            Edge.refusedNone("from " + d, Start.BUSY, x -> x.water(0, 0, 0, 0, d, 99));
            Edge.refusedNone("to " + d, Start.BUSY, x -> x.water(0, 0, 0, 0, 0, d));
            Edge.refusedNone("both " + d, Start.BUSY, x -> x.water(0, 0, 0, 0, d, d));
        }
        for (int t : NO_TOWERS) Edge.refusedNone("tower " + t, Start.BUSY, x -> x.water(t, 0, 0, 0, 0, 99));
        for (int s : Edge.beyond(0, 3)) Edge.refusedNone("side " + s, Start.BUSY, x -> x.water(0, s, 0, 0, 0, 99));
        for (int f : Edge.beyond(0, 3)) Edge.refusedNone("floor " + f, Start.BUSY, x -> x.water(0, 0, f, 0, 0, 99));
        for (int c : Edge.beyond(0, 4)) Edge.refusedNone("column " + c, Start.BUSY, x -> x.water(0, 0, 0, c, 0, 99));
    }

    // -- 48 to 50

    private static void aloft() {
        Edge.term(48, "ALOFT: HOURS of one of the PEOPLE in DROPS of DAYS from one to another one.");
        for (int p : Edge.ends(0, 9)) {
            MenOnCradles x = Start.NEW.then(y -> y.tower(0, 12, 1), y -> y.elder(p, true), y -> y.drill(p, 0), y -> y.drill(5, 0), y -> y.leave(0, 0, 0, 23),
                y -> y.leave(0, 99, 0, 23)).ruled("drill 99;").then(y -> y.drop(0, 0, 0, 0, 0, p, 5), y -> y.drop(0, 0, 0, 99, 21, 5, p)).make();
            int[][] due = {{0, 99, 6}, {0, 0, 3}, {99, 99, 3}, {0, 98, 3}, {1, 99, 3}, {1, 98, 0}, {50, 50, 0}};
            for (int[] d : due) Edge.is(p + " from " + d[0] + " to " + d[1], d[2], x.aloft(p, d[0], d[1]));
            Edge.is("another", 0, x.aloft(4, 0, 99));
        }
    }

    private static void aloftOthers() {
        Edge.promise(48, "ALOFT; NONE: others.");
        for (int p : Edge.beyond(0, 9)) Edge.refusedNone("person " + p, Start.BUSY, x -> x.aloft(p, 0, 99));
        Edge.refusedNone("from above to by one", Start.BUSY, x -> x.aloft(0, 2, 1));
        Edge.refusedNone("from above to", Start.BUSY, x -> x.aloft(0, 99, 0));
        for (int d : Edge.beyond(0, 99)) {
            Edge.refusedNone("from " + d, Start.BUSY, x -> x.aloft(0, d, 99));
            Edge.refusedNone("to " + d, Start.BUSY, x -> x.aloft(0, 0, d));
            Edge.refusedNone("both " + d, Start.BUSY, x -> x.aloft(0, d, d));
        }
    }

    private static void learnt() {
        Edge.term(49, "LEARNT: the first DAY on which, with all DROPS up to it that he made with an elder beside (elders as told now), "
            + "he has been so many HOURS (1 to 999) aloft.");
        Start s = Start.READY.then(x -> x.leave(5, 3, 0, 23), x -> x.drop(0, 0, 0, 1, 8, 0, 1), x -> x.drop(5, 0, 0, 1, 9, 1, 0),
            x -> x.drop(5, 0, 0, 3, 8, 0, 1));
        int[] due = {-1, 1, 1, 1, 1, 3, 3, 3, -1, -1};
        MenOnCradles x = s.make();
        for (int h = 1; h < 10; h++) Edge.is(h + " hours", due[h], x.learnt(1, h));
        Edge.none("999 hours", x.learnt(1, 999));
        Edge.none("the elder, with none beside", x.learnt(0, 1));
        x.elder(1, true);
        Edge.is("the elder, with one beside now", 1, x.learnt(0, 4));
        x.elder(0, false);
        Edge.none("none beside any more", x.learnt(1, 1));
        Edge.is("he learns now", 3, x.learnt(0, 7));
        MenOnCradles day0 = Start.READY.then(y -> y.leave(0, 0, 0, 0), y -> y.drop(0, 0, 0, 0, 0, 0, 1)).make();
        Edge.is("on day 0", 0, day0.learnt(1, 1));
        MenOnCradles most = Start.NEW.then(y -> y.tower(0, 12, 1), y -> y.elder(0, true), y -> y.drill(0, 0), y -> y.drill(9, 0))
            .times(60, (y, d) -> y.leave(0, d, 0, 23)).ruled("rate 1;drill 99;").times(60, (y, d) -> y.drop(0, 0, 0, d, 12, 0, 9)).make();
        Edge.is("720 hours", 59, most.learnt(9, 720));
        Edge.is("709 hours", 59, most.learnt(9, 709));
        Edge.is("708 hours", 58, most.learnt(9, 708));
        Edge.none("721 hours", most.learnt(9, 721));
    }

    private static void learntOthers() {
        Edge.promise(49, "LEARNT; NONE: others, on none.");
        for (int h : Edge.beyond(1, 999)) Edge.refusedNone(h + " hours", Start.BUSY, x -> x.learnt(1, h));
        for (int p : Edge.beyond(0, 9)) Edge.refusedNone("person " + p, Start.BUSY, x -> x.learnt(p, 1));
        Edge.refusedNone("on none", Start.BUSY, x -> x.learnt(1, 999));
        Edge.refusedNone("he was never aloft", Start.BUSY, x -> x.learnt(9, 1));
    }

    private static void gap() {
        Edge.term(50, "GAP: the most days from his DRILL, as it was told then, to a DROP of his.");
        for (int drilled : new int[] {0, 1, 98, 99}) {
            for (int day : new int[] {0, 1, 98, 99}) {
                if (day < drilled) continue;
                MenOnCradles x = Start.NEW.then(y -> y.tower(0, 1, 1), y -> y.elder(0, true), y -> y.drill(0, day), y -> y.drill(9, drilled),
                    y -> y.leave(0, day, 0, 0)).ruled("drill 99;").then(y -> y.drop(0, 0, 0, day, 0, 9, 0)).make();
                Edge.is("drilled on " + drilled + ", a drop on " + day, day - drilled, x.gap(9));
                Edge.is("the elder on the day", 0, x.gap(0));
                x.drill(9, 99);
                x.drill(0, 0);
                Edge.is("as it was told then", day - drilled, x.gap(9));
                Edge.is("as it was told then, the elder", 0, x.gap(0));
            }
        }
        MenOnCradles x = Start.READY.then(y -> y.drop(0, 0, 0, 2, 8, 0, 1), y -> y.drill(0, 2), y -> y.drop(0, 0, 0, 3, 8, 0, 1)).make();
        Edge.is("the most, not the last", 2, x.gap(0));
        Edge.is("the most, the last", 3, x.gap(1));
    }

    private static void gapOthers() {
        Edge.promise(50, "GAP; NONE: no such PERSON, no DROP of his.");
        for (int p : Edge.beyond(0, 9)) Edge.refusedNone("person " + p, Start.BUSY, x -> x.gap(p));
        for (int p : new int[] {4, 5, 9}) Edge.refusedNone("no drop of " + p, Start.BUSY, x -> x.gap(p));
        for (int p = 0; p < 10; p++) Edge.none("nothing is made, " + p, Start.READY.make().gap(p));
    }
}
