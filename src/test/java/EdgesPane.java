/** Edges of promises 20 to 25: late panes and why, stops that reach all, scratches, the bill and the rope. */
final class EdgesPane {
    private EdgesPane() { }

    static void all() {
        late();
        lateOthers();
        reasonOrder();
        reason0();
        reason1();
        reason2();
        reason3();
        reason4();
        reason5();
        reasonOthers();
        cover();
        coverLeast();
        coverOthers();
        scratch();
        scratchNumber();
        scratchOthers();
        bill();
        billOthers();
        stands();
        standsOthers();
    }

    // -- 20

    private static void late() {
        Edge.term(20, "LATE on a DAY with a PROMISE (1 to 99) is a PANE that is not BLOCKED and that no DROP washed on this DAY or "
            + "on one of the PROMISE - 1 days ahead of it.");
        Start s = Start.NEW.then(x -> x.tower(0, 1, 1), x -> x.elder(0, true), x -> x.drill(0, 1), x -> x.drill(1, 1), x -> x.leave(0, 1, 0, 0),
            x -> x.drop(0, 2, 0, 1, 0, 0, 1));
        for (int day : new int[] {0, 1, 2, 3, 97, 98, 99}) {
            for (int promise : new int[] {1, 2, 3, 96, 97, 98, 99}) {
                boolean in = day >= 1 && day - promise < 1;
                Edge.is("day " + day + ", promise " + promise, in ? 0 : 1, s.make().late(0, 2, day, promise));
            }
        }
        MenOnCradles x = s.make();
        x.block(0, 2, 0, 0, true);
        Edge.is("blocked", 0, x.late(0, 2, 99, 1));
        x.block(0, 2, 0, 0, false);
        x.nest(0, 2, 0, 0, 0, 99);
        Edge.is("a nest's is late", 1, x.late(0, 2, 99, 1));
        Edge.is("washed, nested now", 0, x.late(0, 2, 1, 1));
        MenOnCradles y = Start.READY.make();
        Edge.is("all of the greatest side", 120, y.late(5, 0, 99, 99));
        y.drop(5, 0, 8, 1, 0, 0, 1);
        Edge.is("but for two columns", 96, y.late(5, 0, 99, 99));
        Edge.is("not yet on day 0", 120, y.late(5, 0, 0, 99));
        Edge.is("not on another side", 120, y.late(5, 1, 1, 1));
    }

    private static void lateOthers() {
        Edge.promise(20, "How many PANES of a SIDE are LATE; NONE: others.");
        for (int side : Edge.ends(0, 3)) for (int day : Edge.ends(0, 99)) for (int promise : Edge.ends(1, 99)) {
            Edge.is("side " + side + ", day " + day + ", promise " + promise, 30, Start.READY.make().late(1, side, day, promise));
        }
        for (int t : new int[] {-1, 2, 4, 6, Edge.MIN, Edge.MAX}) Edge.refusedNone("tower " + t, Start.BUSY, x -> x.late(t, 0, 0, 1));
        for (int s : Edge.beyond(0, 3)) Edge.refusedNone("side " + s, Start.BUSY, x -> x.late(0, s, 0, 1));
        for (int d : Edge.beyond(0, 99)) Edge.refusedNone("day " + d, Start.BUSY, x -> x.late(0, 0, d, 1));
        for (int p : Edge.beyond(1, 99)) Edge.refusedNone("promise " + p, Start.BUSY, x -> x.late(0, 0, 0, p));
    }

    // -- 21

    /** A pane of tower 0 with what the bits tell: 1 blocked, 2 no open stop, 4 nested, 8 no hour to work in. */
    private static Start latePane(int bits) {
        Start s = Start.READY;
        if ((bits & 1) != 0) s = s.then(x -> x.block(0, 1, 2, 3, true));
        if ((bits & 2) != 0) s = s.then(x -> x.rail(0, 1, 2, false), x -> x.rail(0, 1, 3, false));
        if ((bits & 4) != 0) s = s.then(x -> x.nest(0, 1, 2, 3, 2, 4));
        if ((bits & 8) != 0) s = s.ruled("stop when hour<12;quiet when 11<hour;");
        return s;
    }

    private static void reasonOrder() {
        Edge.term(21, "REASON why a PANE is so:");
        for (int bits = 0; bits < 16; bits++) {
            int due = bits == 0 ? 5 : Integer.numberOfTrailingZeros(bits) + 1;
            Edge.is("as bits " + bits, due, latePane(bits).make().reason(0, 1, 2, 3, 4, 3));
        }
    }

    private static void reason0() {
        Edge.term(21, "0 if it is not LATE.");
        for (int bits = 0; bits < 16; bits += 2) {
            int more = bits;
            MenOnCradles x = Start.READY.then(y -> y.drop(0, 1, 3, 2, 8, 0, 1)).make();
            Edge.is("washed on the day", 0, x.reason(0, 1, 2, 3, 2, 1));
            Edge.is("a day behind, promise 1", 5, x.reason(0, 1, 2, 3, 3, 1));
            Edge.is("a day behind, promise 2", 0, x.reason(0, 1, 2, 3, 3, 2));
            Edge.is("a day ahead", 5, x.reason(0, 1, 2, 3, 1, 99));
            if ((more & 2) != 0) { x.rail(0, 1, 2, false); x.rail(0, 1, 3, false); }
            if ((more & 4) != 0) x.nest(0, 1, 2, 3, 0, 99);
            if ((more & 8) != 0) Texts.rule(x, "stop when 1;");
            Edge.is("it is not late, whatever else " + more, 0, x.reason(0, 1, 2, 3, 4, 3));
        }
    }

    private static void reason1() {
        Edge.term(21, "1 it is BLOCKED;");
        MenOnCradles x = latePane(15).make();
        Edge.is("ahead of all others", 1, x.reason(0, 1, 2, 3, 4, 3));
        Edge.is("the pane beside is not", 2, x.reason(0, 1, 1, 3, 4, 3));
        x.block(0, 1, 2, 3, false);
        Edge.is("not any more", 2, x.reason(0, 1, 2, 3, 4, 3));
    }

    private static void reason2() {
        Edge.term(21, "2 no open STOP REACHES its COLUMN;");
        for (int width = 1; width <= 4; width++) {
            int w = width;
            for (int column : new int[] {0, 1, 4, 9}) {
                Start shut = Start.READY.then(x -> x.cradle(5, w, 9)).times(10, (x, c) -> x.rail(5, 0, c, false));
                Edge.is("all shut", 2, shut.make().reason(5, 0, 11, column, 1, 1));
                for (int stop = 0; stop < 10; stop++) {
                    int open = stop;
                    boolean reaches = stop <= column && column < stop + w;
                    Edge.is("width " + w + ", column " + column + ", stop " + stop, reaches ? 5 : 2,
                        shut.then(x -> x.rail(5, 0, open, true)).make().reason(5, 0, 11, column, 1, 1));
                }
            }
        }
    }

    private static void reason3() {
        Edge.term(21, "3 it has a NEST on each of these DAYS (this one and PROMISE - 1 ahead);");
        int[][] nests = {{3, 4, 3}, {3, 3, 5}, {2, 4, 3}, {0, 4, 3}, {4, 4, 5}, {3, 99, 3}, {4, 99, 5}};
        for (int[] n : nests) {
            MenOnCradles x = Start.READY.then(y -> y.nest(0, 0, 0, 0, n[0], n[1])).make();
            Edge.is("day 4, promise 2, nest from " + n[0] + " to " + n[1], n[2], x.reason(0, 0, 0, 0, 4, 2));
        }
        MenOnCradles x = Start.READY.then(y -> y.nest(0, 0, 0, 0, 3, 3), y -> y.nest(0, 0, 0, 0, 4, 4)).make();
        Edge.is("one nest behind the other", 3, x.reason(0, 0, 0, 0, 4, 2));
        Edge.is("one day more ahead", 5, x.reason(0, 0, 0, 0, 4, 3));
        Start first = Start.READY.then(y -> y.nest(0, 0, 0, 0, 1, 4), y -> y.leave(0, 0, 23, 23));
        Edge.is("not on day 0", 5, first.make().reason(0, 0, 0, 0, 4, 5));
        Edge.is("not on day 0, though days ahead of it are no days", 5, first.make().reason(0, 0, 0, 0, 4, 99));
        Edge.is("day 0 is not one of these", 3, first.make().reason(0, 0, 0, 0, 4, 4));
        Edge.is("day 0 alone", 5, first.make().reason(0, 0, 0, 0, 0, 1));
        Edge.is("day 0 alone, stopped", 4, first.ruled("stop when day=0;").make().reason(0, 0, 0, 0, 0, 99));
        Edge.is("another pane", 5, x.reason(0, 0, 1, 0, 4, 2));
        MenOnCradles y = Start.READY.then(z -> z.nest(0, 0, 0, 0, 0, 99)).make();
        for (int day : Edge.ends(0, 99)) for (int promise : Edge.ends(1, 99)) Edge.is("on all days", 3, y.reason(0, 0, 0, 0, day, promise));
    }

    private static void reason4() {
        Edge.term(21, "4 on each of them without a NEST there is no HOUR with LEAVE in which a DROP of one HOUR would be neither STOPPED "
            + "nor quiet (as of LOST);");
        Start s = Start.READY;
        Edge.is("no leave on day 6", 4, s.make().reason(0, 0, 0, 0, 6, 1));
        Edge.is("leave on the day ahead", 5, s.make().reason(0, 0, 0, 0, 6, 2));
        Edge.is("a nest on the day ahead", 4, s.then(x -> x.nest(0, 0, 0, 0, 5, 5)).make().reason(0, 0, 0, 0, 6, 2));
        Edge.is("another's leave", 4, s.make().reason(0, 0, 0, 0, 7, 2));
        Edge.is("stopped in all hours", 4, s.ruled("stop when 1;").make().reason(0, 0, 0, 0, 1, 1));
        Edge.is("quiet in all hours", 4, s.ruled("quiet when 1;").make().reason(0, 0, 0, 0, 1, 1));
        Edge.is("one or the other", 4, s.ruled("stop when hour<13;quiet when 12<hour;").make().reason(0, 0, 0, 0, 1, 1));
        Edge.is("but for the first hour", 5, s.ruled("stop when 8<hour;").make().reason(0, 0, 0, 0, 1, 1));
        Edge.is("but for the last hour", 5, s.ruled("stop when hour<17;").make().reason(0, 0, 0, 0, 1, 1));
        Edge.is("free in an hour without leave", 4, s.ruled("stop when 7<hour and hour<18;").make().reason(0, 0, 0, 0, 1, 1));
        for (int side = 0; side < 4; side++) {
            Edge.is("stopped on side 1, side " + side, side == 1 ? 4 : 5, s.ruled("stop when side=1;").make().reason(1, side, 0, 0, 1, 1));
            Edge.is("quiet on side 3, side " + side, side == 3 ? 4 : 5, s.ruled("quiet when side=3;").make().reason(0, side, 0, 0, 1, 1));
        }
        for (int t : new int[] {0, 1, 5}) Edge.is("stopped on tower 1, tower " + t, t == 1 ? 4 : 5, s.ruled("stop when tower=1;").make().reason(t, 2, 0, 0, 1, 1));
        Edge.is("hour 0 alone", 5, s.then(x -> x.leave(0, 50, 0, 0)).make().reason(0, 0, 0, 0, 50, 1));
        Edge.is("hour 23 alone", 5, s.then(x -> x.leave(0, 50, 23, 23)).make().reason(0, 0, 0, 0, 50, 1));
        Edge.is("as of lost, behind a drop", 4, s.ruled("wear 3;").then(x -> x.drop(5, 0, 0, 1, 8, 0, 1), x -> x.drop(5, 0, 0, 1, 12, 0, 1))
            .ruled("quiet when panes=0 and age=0 and hours=1 and worn=6;").then(x -> x.why(1, 0, 0, 1, 20, 0, 1)).make().reason(5, 0, 0, 2, 1, 1));
        Edge.is("as of lost", 4, s.ruled("quiet when panes=0 and age=0 and hours=1;").make().reason(0, 0, 0, 0, 1, 1));
        Edge.is("wear is no matter", 5, s.ruled("wear 9999;keys;").make().reason(0, 0, 0, 0, 1, 1));
        Edge.is("nor a film", 5, s.then(x -> x.film(0, 0, 0, 99, 0, 23)).make().reason(0, 0, 0, 0, 1, 1));
    }

    private static void reason5() {
        Edge.term(21, "5 else;");
        Edge.is("it might have been", 5, Start.READY.make().reason(0, 0, 0, 0, 1, 1));
        Edge.is("on one of 99 days", 5, Start.READY.make().reason(0, 0, 0, 0, 99, 99));
        Edge.is("day 5 is just in", 5, Start.READY.make().reason(0, 0, 0, 0, 99, 95));
        Edge.is("day 5 is just out", 4, Start.READY.make().reason(0, 0, 0, 0, 99, 94));
    }

    private static void reasonOthers() {
        Edge.promise(21, "REASON of a PANE; NONE: others.");
        for (int side : Edge.ends(0, 3)) for (int floor : Edge.ends(0, 9)) for (int column : Edge.ends(0, 2)) {
            Edge.is("pane " + side + " " + floor + " " + column, 5, Start.READY.make().reason(1, side, floor, column, 2, 2));
        }
        for (int t : new int[] {-1, 2, 4, 6, Edge.MIN, Edge.MAX}) Edge.refusedNone("tower " + t, Start.BUSY, x -> x.reason(t, 0, 0, 0, 0, 1));
        for (int s : Edge.beyond(0, 3)) Edge.refusedNone("side " + s, Start.BUSY, x -> x.reason(0, s, 0, 0, 0, 1));
        for (int f : Edge.beyond(0, 3)) Edge.refusedNone("floor " + f, Start.BUSY, x -> x.reason(0, 0, f, 0, 0, 1));
        for (int c : Edge.beyond(0, 4)) Edge.refusedNone("column " + c, Start.BUSY, x -> x.reason(0, 0, 0, c, 0, 1));
        for (int d : Edge.beyond(0, 99)) Edge.refusedNone("day " + d, Start.BUSY, x -> x.reason(0, 0, 0, 0, d, 1));
        for (int p : Edge.beyond(1, 99)) Edge.refusedNone("promise " + p, Start.BUSY, x -> x.reason(0, 0, 0, 0, 0, p));
    }

    // -- 22

    private static void cover() {
        Edge.term(22, "COVER of a SIDE: the fewest open STOPS so that each COLUMN with a PANE that is not BLOCKED is REACHED,");
        Edge.promise(22, "COVER, what 0: how many, 1: as bits; NONE: others, none does.");
        int[] fewest = {10, 5, 4, 3};
        for (int w = 1; w <= 4; w++) {
            int width = w;
            MenOnCradles x = Start.READY.then(y -> y.cradle(5, width, 9)).make();
            Edge.is("width " + w, fewest[w - 1], x.cover(5, 0, 0));
        }
        MenOnCradles one = Start.NEW.then(y -> y.tower(0, 1, 1)).make();
        Edge.is("one column", 1, one.cover(0, 3, 0));
        Edge.is("as bits", 1, one.cover(0, 3, 1));
        one.rail(0, 3, 0, false);
        Edge.none("none does", one.cover(0, 3, 0));
        Edge.none("none as bits", one.cover(0, 3, 1));
        one.block(0, 3, 0, 0, true);
        Edge.is("nothing to reach", 0, one.cover(0, 3, 0));
        Edge.is("nothing as bits", 0, one.cover(0, 3, 1));
        MenOnCradles x = Start.READY.times(11, (y, f) -> y.block(5, 0, f, 9, true)).make();
        Edge.is("one pane of the last column is not blocked", 5, x.cover(5, 0, 0));
        x.block(5, 0, 11, 9, true);
        Edge.is("it is", 5, x.cover(5, 0, 0));
        for (int f = 0; f < 12; f++) x.block(5, 0, f, 0, true);
        Edge.is("the first is, too", 4, x.cover(5, 0, 0));
        Edge.is("from the second on", 0b010101010, x.cover(5, 0, 1));
    }

    private static void coverLeast() {
        Edge.term(22, "of as many the least as bits.");
        int[] due = {1023, 1 + 4 + 16 + 64 + 256, 1 + 2 + 16 + 128, 1 + 4 + 64};
        for (int w = 1; w <= 4; w++) {
            int width = w;
            Edge.is("width " + w, due[w - 1], Start.READY.then(y -> y.cradle(5, width, 9)).make().cover(5, 0, 1));
        }
        for (int w = 1; w <= 4; w++) {
            int width = w;
            for (int shut = 0; shut < 1024; shut += 7) {
                int bits = shut;
                MenOnCradles z = Start.READY.then(v -> v.cradle(5, width, 9)).times(10, (v, c) -> v.rail(5, 0, c, (bits >> c & 1) == 0)).make();
                Edge.is("width " + w + ", shut as bits " + shut, leastOpen(w, ~shut & 1023), z.cover(5, 0, 1));
            }
        }
    }

    /** Of all sets of open stops that reach ten columns: the fewest, of as many the least. */
    private static int leastOpen(int width, int open) {
        int best = MenOnCradles.NONE;
        for (int stops = 1023; stops >= 0; stops--) {
            int reached = 0;
            for (int k = 0; k < width; k++) reached |= stops << k;
            boolean does = (stops & ~open) == 0 && (reached & 1023) == 1023;
            if (does && (best == MenOnCradles.NONE || Integer.bitCount(stops) <= Integer.bitCount(best))) best = stops;
        }
        return best;
    }

    private static void coverOthers() {
        Edge.promise(22, "NONE: others, none does.");
        for (int side : Edge.ends(0, 3)) Edge.is("side " + side, 2, Start.READY.make().cover(1, side, 0));
        for (int what : Edge.ends(0, 1)) {
            Edge.refusedNone("none does, what " + what, Start.READY.then(x -> x.rail(1, 0, 0, false)), x -> x.cover(1, 0, what));
            for (int t : new int[] {-1, 2, 4, 6, Edge.MIN, Edge.MAX}) Edge.refusedNone("tower " + t, Start.BUSY, x -> x.cover(t, 0, what));
            for (int s : Edge.beyond(0, 3)) Edge.refusedNone("side " + s, Start.BUSY, x -> x.cover(0, s, what));
        }
        for (int what : Edge.beyond(0, 1)) Edge.refusedNone("what " + what, Start.BUSY, x -> x.cover(0, 0, what));
        Edge.refused("a cover that is found", Start.BUSY, x -> x.cover(5, 2, 0) != 3);
    }

    // -- 23

    private static Start scratched() {
        return Start.READY.then(x -> x.elder(9, true), x -> x.drill(9, 0), x -> x.drop(0, 0, 0, 1, 8, 0, 1), x -> x.drop(0, 0, 1, 3, 8, 9, 2),
            x -> x.drop(0, 0, 0, 3, 9, 0, 3), x -> x.drop(0, 0, 0, 5, 8, 9, 0));
    }

    private static void scratch() {
        Edge.term(23, "SCRATCH on a PANE, not there on a DAY, there on a later one: SUSPECTS are the PEOPLE of DROPS that REACHED it, "
            + "behind the first DAY up to the second one;");
        int[][] due = {{0, 1, 3, 1, 0}, {0, 99, 0b1000001111, 4, 3}, {1, 2, 0, 0, -1}, {1, 3, 0b1000001101, 2, 2}, {2, 3, 0b1000001101, 2, 2},
            {3, 4, 0, 0, -1}, {3, 5, 0b1000000001, 1, 3}, {4, 5, 0b1000000001, 1, 3}, {4, 99, 0b1000000001, 1, 3}, {5, 99, 0, 0, -1},
            {98, 99, 0, 0, -1}, {2, 4, 0b1000001101, 2, 2}};
        for (int[] d : due) {
            MenOnCradles x = scratched().make();
            for (int what = 0; what < 3; what++) {
                Edge.is("behind " + d[0] + " up to " + d[1] + ", what " + what, d[2 + what], x.scratch(0, 0, 0, 1, d[0], d[1], what));
            }
        }
        MenOnCradles x = scratched().make();
        Edge.is("a column that fewer reached", 3, x.scratch(0, 0, 0, 0, 0, 99, 1));
        Edge.is("a column that one reached", 1, x.scratch(0, 0, 3, 2, 0, 99, 1));
        Edge.is("another side", 0, x.scratch(0, 1, 0, 1, 0, 99, 1));
        Edge.is("another tower", 0, x.scratch(1, 0, 0, 1, 0, 99, 1));
    }

    private static void scratchNumber() {
        Edge.term(23, "it is SURE if there was just one such DROP, OPEN if none.");
        MenOnCradles x = scratched().make();
        Edge.is("open", 0, x.scratch(0, 0, 0, 1, 1, 2, 1));
        Edge.is("open: no suspects", 0, x.scratch(0, 0, 0, 1, 1, 2, 0));
        Edge.is("sure", 1, x.scratch(0, 0, 0, 1, 0, 1, 1));
        Edge.is("sure: two suspects", 3, x.scratch(0, 0, 0, 1, 0, 1, 0));
        Edge.is("neither", 2, x.scratch(0, 0, 0, 1, 2, 3, 1));
    }

    private static void scratchOthers() {
        Edge.promise(23, "SCRATCH behind a DAY a up to b, what 0: SUSPECTS as bits, 1: how many DROPS, 2: the last of these; "
            + "NONE: others (a not ahead of b), none (2).");
        Edge.none("none (2)", scratched().make().scratch(0, 0, 0, 1, 1, 2, 2));
        for (int what = 0; what < 3; what++) {
            int w = what;
            for (int d : new int[] {0, 1, 50, 99}) Edge.refusedNone("a is b, " + d, Start.BUSY, x -> x.scratch(0, 0, 0, 1, d, d, w));
            Edge.refusedNone("a behind b by one", Start.BUSY, x -> x.scratch(0, 0, 0, 1, 2, 1, w));
            Edge.refusedNone("a behind b", Start.BUSY, x -> x.scratch(0, 0, 0, 1, 99, 0, w));
        }
        for (int d : Edge.beyond(0, 99)) {
            Edge.refusedNone("a " + d, Start.BUSY, x -> x.scratch(0, 0, 0, 1, d, 99, 1));
            Edge.refusedNone("b " + d, Start.BUSY, x -> x.scratch(0, 0, 0, 1, 0, d, 1));
        }
        for (int what : Edge.beyond(0, 2)) Edge.refusedNone("what " + what, Start.BUSY, x -> x.scratch(0, 0, 0, 1, 0, 99, what));
        for (int t : new int[] {-1, 2, 4, 6, Edge.MIN, Edge.MAX}) Edge.refusedNone("tower " + t, Start.BUSY, x -> x.scratch(t, 0, 0, 1, 0, 99, 1));
        for (int s : Edge.beyond(0, 3)) Edge.refusedNone("side " + s, Start.BUSY, x -> x.scratch(0, s, 0, 1, 0, 99, 1));
        for (int f : Edge.beyond(0, 3)) Edge.refusedNone("floor " + f, Start.BUSY, x -> x.scratch(0, 0, f, 1, 0, 99, 1));
        for (int c : Edge.beyond(0, 4)) Edge.refusedNone("column " + c, Start.BUSY, x -> x.scratch(0, 0, 0, c, 0, 99, 1));
    }

    // -- 24 and 25

    private static void bill() {
        Edge.term(24, "BILL of a TOWER (NONE: of all) from a DAY to another one: prices, water, HOURS, PANES washed, DROPS.");
        Edge.promise(24, "BILL, what 0: prices, 1: water, 2: HOURS, 3: PANES, 4: DROPS.");
        Start s = Start.READY.then(x -> x.leave(1, 0, 0, 23), x -> x.leave(1, 99, 0, 23)).ruled("drill 99;price 100+day;water 7;")
            .then(x -> x.drop(1, 0, 0, 0, 0, 0, 1), x -> x.drop(0, 0, 0, 1, 8, 0, 1), x -> x.drop(1, 0, 0, 99, 20, 0, 1));
        long[][] due = {{-1, 0, 99, 400, 21, 7, 48, 3}, {0, 0, 99, 101, 7, 1, 8, 1}, {1, 0, 99, 299, 14, 6, 40, 2}, {5, 0, 99, 0, 0, 0, 0, 0},
            {-1, 0, 0, 100, 7, 3, 20, 1}, {-1, 99, 99, 199, 7, 3, 20, 1}, {-1, 1, 98, 101, 7, 1, 8, 1}, {-1, 2, 98, 0, 0, 0, 0, 0},
            {-1, 0, 1, 201, 14, 4, 28, 2}, {-1, 1, 99, 300, 14, 4, 28, 2}};
        for (long[] d : due) {
            MenOnCradles x = s.make();
            for (int what = 0; what < 5; what++) {
                Edge.is("tower " + d[0] + " from " + d[1] + " to " + d[2] + ", what " + what, d[3 + what], x.bill((int) d[0], (int) d[1], (int) d[2], what));
            }
        }
        MenOnCradles great = Start.DROPS59.then(x -> x.mark(0, false)).make();
        for (int what = 0; what < 2; what++) Edge.is("without prices", 0, great.bill(-1, 0, 99, what));
        MenOnCradles most = Start.READY.ruled("price 9999*9999*21+9999*4790+8416;water 9999*9999*21+9999*4790+8416;")
            .times(10, (x, i) -> x.drop(0, 0, 0, 1, 8 + i, 0, 1)).make();
        for (int what = 0; what < 2; what++) Edge.is("beyond ints", 10L * Edge.MAX, most.bill(0, 1, 1, what));
    }

    private static void billOthers() {
        Edge.promise(24, "NONE: others.");
        for (int what : Edge.beyond(0, 4)) Edge.refusedNone("what " + what, Start.BUSY, x -> x.bill(0, 0, 99, what));
        for (int t : new int[] {-2, 2, 3, 4, 6, Edge.MIN, Edge.MAX}) Edge.refusedNone("tower " + t, Start.BUSY, x -> x.bill(t, 0, 99, 0));
        for (int t : new int[] {-1, 0}) {
            Edge.refusedNone("from above to by one", Start.BUSY, x -> x.bill(t, 2, 1, 4));
            Edge.refusedNone("from above to", Start.BUSY, x -> x.bill(t, 99, 0, 4));
            for (int d : Edge.beyond(0, 99)) {
                Edge.refusedNone("from " + d, Start.BUSY, x -> x.bill(t, d, 99, 4));
                Edge.refusedNone("to " + d, Start.BUSY, x -> x.bill(t, 0, d, 4));
                Edge.refusedNone("both " + d, Start.BUSY, x -> x.bill(t, d, d, 4));
            }
        }
    }

    private static void stands() {
        Edge.promise(25, "How many more DROPS of this wear a CRADLE's rope would stand;");
        for (int life : new int[] {1, 2, 10, 9999}) {
            MenOnCradles x = Start.READY.then(y -> y.cradle(0, 2, life)).make();
            for (int wear : new int[] {1, 2, 3, 9, 10, 11, 9998, 9999}) Edge.is("life " + life + ", wear " + wear, life / wear, x.stands(0, wear));
        }
        MenOnCradles x = Start.READY.ruled("wear 990;").then(y -> y.drop(0, 0, 0, 1, 8, 0, 1)).make();
        int[] due = {10, 5, 3, 2, 2, 1, 1, 1, 1, 1, 0};
        for (int i = 0; i < due.length; i++) Edge.is("ten are left, wear " + (i + 1), due[i], x.stands(0, i + 1));
        Texts.rule(x, "wear 5;");
        Edge.is("the first of two", 1, x.drop(0, 0, 0, 1, 9, 0, 1));
        Edge.is("the second of two", 2, x.drop(0, 0, 0, 1, 10, 0, 1));
        Edge.is("it stands no more", 0, x.stands(0, 5));
        Edge.is("as WHY tells", 11, x.why(0, 0, 0, 1, 11, 0, 1));
        MenOnCradles back = Start.READY.ruled("wear 900;").then(y -> y.drop(0, 0, 0, 1, 8, 0, 1), y -> y.mark(0, false), y -> y.cradle(0, 2, 5),
            y -> y.mark(0, true)).ruled("").make();
        for (int wear : new int[] {1, 5, 9999}) Edge.is("worn beyond its life by going back, wear " + wear, 0, back.stands(0, wear));
        Edge.is("not even a drop without wear", 11, back.why(0, 0, 0, 1, 9, 0, 1));
    }

    private static void standsOthers() {
        Edge.promise(25, "NONE: others (wear 1 to 9999).");
        Edge.is("wear 1", 500 - 16, Start.BUSY.make().stands(0, 1));
        Edge.is("wear 9999", 0, Start.BUSY.make().stands(0, 9999));
        for (int wear : Edge.beyond(1, 9999)) Edge.refusedNone("wear " + wear, Start.BUSY, x -> x.stands(0, wear));
        for (int t : new int[] {-1, 2, 4, 6, Edge.MIN, Edge.MAX}) Edge.refusedNone("tower " + t, Start.BUSY, x -> x.stands(t, 1));
    }
}
