/** Edges of promises 51 to 53, 56 and 57: a row of drops tried, marks, counts. */
final class EdgesRow {
    private EdgesRow() { }

    static void all() {
        row12();
        rowOthers();
        clear();
        triedEmpty();
        triedFirst();
        triedSums();
        triedOnes();
        triedNothing();
        triedMarks();
        triedOthers();
        marks();
        goneBack();
        laidBehind();
        markOthers();
        counts();
        countOthers();
        constants();
    }

    private static void row12() {
        Edge.term(51, "A ROW of DROPS, 12 at most, is told as for a DROP (they need not be what may be).");
        Start s = Start.BUSY.times(8, (x, i) -> x.row(5, 3, 9, 99, 23, 9, 9));
        MenOnCradles x = s.make();
        Edge.is("11 are there", 11, x.count(12));
        Edge.is("the 12th", 12, x.row(0, 0, 0, 0, 0, 0, 0));
        Edge.is("12 are there", 12, x.count(12));
        Start full = s.then(y -> y.row(0, 0, 0, 0, 0, 0, 0));
        Edge.refusedNone("a 13th", full, y -> y.row(0, 1, 0, 4, 18, 0, 1));
        Edge.refusedNone("a 13th as the 12th", full, y -> y.row(0, 0, 0, 0, 0, 0, 0));
        MenOnCradles may = Start.READY.make();
        Edge.is("both the same", 1, may.row(0, 0, 0, 1, 8, 4, 4));
        Edge.is("no leave", 2, may.row(5, 3, 9, 99, 23, 0, 1));
        Edge.is("an earlier day", 3, may.row(0, 0, 0, 0, 0, 0, 1));
    }

    private static void rowOthers() {
        Edge.promise(51, "A DROP comes behind the ROW: how many it has; NONE: others (TOWER not told, no such STOP, DAY, HOUR, PERSON), 12 are there.");
        for (int side : Edge.ends(0, 3)) for (int stop : Edge.ends(0, 4)) for (int day : Edge.ends(0, 99)) for (int hour : Edge.ends(0, 23)) {
            MenOnCradles x = Start.READY.make();
            Edge.is("one", 1, x.row(0, side, stop, day, hour, 0, 9));
            Edge.is("two", 2, x.row(0, side, stop, day, hour, 9, 0));
        }
        for (int t : new int[] {-1, 2, 4, 6, Edge.MIN, Edge.MAX}) Edge.refusedNone("tower " + t, Start.BUSY, x -> x.row(t, 0, 0, 1, 8, 0, 1));
        for (int s : Edge.beyond(0, 3)) Edge.refusedNone("side " + s, Start.BUSY, x -> x.row(0, s, 0, 1, 8, 0, 1));
        for (int c : Edge.beyond(0, 4)) Edge.refusedNone("stop " + c, Start.BUSY, x -> x.row(0, 0, c, 1, 8, 0, 1));
        for (int d : Edge.beyond(0, 99)) Edge.refusedNone("day " + d, Start.BUSY, x -> x.row(0, 0, 0, d, 8, 0, 1));
        for (int h : Edge.beyond(0, 23)) Edge.refusedNone("hour " + h, Start.BUSY, x -> x.row(0, 0, 0, 1, h, 0, 1));
        for (int p : Edge.beyond(0, 9)) {
            Edge.refusedNone("the first " + p, Start.BUSY, x -> x.row(0, 0, 0, 1, 8, p, 1));
            Edge.refusedNone("the second " + p, Start.BUSY, x -> x.row(0, 0, 0, 1, 8, 0, p));
        }
    }

    private static void clear() {
        Edge.promise(52, "The ROW is empty: true.");
        MenOnCradles x = new MenOnCradles();
        Edge.yes("an empty one", x.clear());
        Edge.is("is empty", 0, x.count(12));
        MenOnCradles full = Start.READY.times(12, (y, i) -> y.row(0, 0, 0, 1, 8, 0, 1)).make();
        Edge.none("a full one", full.row(0, 0, 0, 1, 8, 0, 1));
        Edge.yes("cleared", full.clear());
        Edge.is("is empty", 0, full.count(12));
        Edge.none("none is tried", full.tried(0));
        Edge.is("no hours", 0, full.tried(3));
        Edge.is("there is room", 1, full.row(0, 1, 0, 1, 8, 0, 1));
        Edge.is("for the new one alone", 1, full.tried(3));
        Edge.is("of busy ones all else stays", 7, Start.BUSY.then(y -> y.clear()).make().count(1));
    }

    private static void tried(String what, MenOnCradles x, long... due) {
        for (int i = 0; i < due.length; i++) Edge.is(what + ", tried(" + i + ")", due[i], x.tried(i));
    }

    private static void triedEmpty() {
        Edge.promise(53, "The ROW TRIED, what 0: the first that may not be (from 0; NONE: all may), 1: its WHY (NONE: it could not be told, or all may), "
            + "2: prices, 3: HOURS, 4: PANES.");
        tried("an empty row", new MenOnCradles(), -1, -1, 0, 0, 0);
        tried("an empty row behind drops", Start.DROPS59.make(), -1, -1, 0, 0, 0);
        Start s = Start.READY.ruled("price 100;").then(x -> x.row(5, 0, 0, 1, 8, 0, 1));
        tried("one that may be", s.make(), -1, -1, 100, 3, 24);
        tried("the first may not", Start.READY.then(x -> x.row(5, 0, 0, 1, 22, 0, 1)).make(), 0, 4, 0, 0, 0);
        tried("the second may not", s.then(x -> x.row(5, 0, 0, 1, 10, 0, 1), x -> x.row(0, 0, 0, 1, 13, 0, 1)).make(), 1, 5, 100, 3, 24);
        tried("the second could not be told", s.then(x -> x.row(0, 0, 0, 0, 10, 0, 1)).make(), 1, -1, 100, 3, 24);
        Start twelve = Start.READY.ruled("price 100;rate 12;").times(10, (x, i) -> x.row(0, 0, i % 5, 1, 8 + i, 0, 1))
            .then(x -> x.row(0, 0, 0, 2, 8, 0, 1));
        tried("all twelve", twelve.then(x -> x.row(0, 0, 0, 2, 9, 0, 1)).make(), -1, -1, 1200, 12, 20);
        tried("the twelfth may not", twelve.then(x -> x.row(0, 0, 0, 2, 8, 0, 1)).make(), 11, 5, 1100, 11, 20);
    }

    private static void triedFirst() {
        Edge.term(53, "TRIED one after the other behind the DROPS made, as if they were made: the first that may not be (WHY not 0, or NONE as for a DROP), its WHY;");
        Start made = Start.READY.then(x -> x.drop(0, 0, 0, 2, 10, 0, 1));
        tried("ahead of the last drop's day", made.then(x -> x.row(0, 0, 0, 1, 10, 0, 1)).make(), 0, -1, 0, 0, 0);
        tried("on its day, he is aloft", made.then(x -> x.row(1, 0, 0, 2, 8, 0, 2)).make(), 0, 5, 0, 0, 0);
        tried("right behind it", made.then(x -> x.row(1, 0, 0, 2, 11, 0, 2)).make(), -1, -1, 0, 3, 20);
        tried("ahead of the row's last", made.then(x -> x.row(0, 0, 0, 4, 10, 0, 1), x -> x.row(0, 0, 0, 3, 10, 0, 1)).make(), 1, -1, 0, 1, 8);
        tried("the cradle is in the row", made.then(x -> x.elder(2, true), x -> x.row(5, 0, 0, 2, 8, 0, 1)).then(x -> x.leave(5, 2, 0, 23),
            x -> x.row(5, 1, 0, 2, 9, 2, 3)).make(), 0, 5, 0, 0, 0);
        tried("the cradle is in the row", Start.READY.then(x -> x.elder(2, true), x -> x.row(5, 0, 0, 1, 8, 0, 1), x -> x.row(5, 1, 0, 1, 10, 2, 3)).make(),
            1, 6, 0, 3, 24);
        tried("worn by the row", Start.READY.ruled("wear 501;").then(x -> x.row(0, 0, 0, 1, 8, 0, 1), x -> x.row(0, 0, 0, 1, 9, 0, 1)).make(), 1, 11, 0, 1, 8);
        tried("worn to its life", Start.READY.ruled("wear 500;").then(x -> x.row(0, 0, 0, 1, 8, 0, 1), x -> x.row(0, 0, 0, 1, 9, 0, 1)).make(), -1, -1, 0, 2, 8);
        tried("age by the row", Start.READY.ruled("price age;").then(x -> x.row(0, 0, 0, 1, 8, 0, 1), x -> x.row(0, 0, 0, 4, 9, 0, 1)).make(), -1, -1, 102, 2, 8);
        tried("the sixtieth", Start.DROPS59.then(x -> x.row(0, 1, 2, 6, 17, 0, 1)).make(), -1, -1, 0, 1, 8);
        tried("a 61st", Start.DROPS59.then(x -> x.row(0, 1, 2, 6, 17, 0, 1), x -> x.row(0, 0, 0, 6, 17, 0, 1)).make(), 1, -1, 0, 1, 8);
        tried("60 are there", Start.DROPS59.then(x -> x.drop(0, 1, 2, 6, 17, 0, 1), x -> x.row(0, 1, 2, 6, 17, 0, 1)).make(), 0, -1, 0, 0, 0);
    }

    private static void triedSums() {
        Edge.term(53, "without that one and those behind it: prices, HOURS,");
        String most = "price 9999*9999*21+9999*4790+8416;";
        Start s = Start.READY.ruled(most).times(10, (x, i) -> x.row(0, 0, 0, 1, 8 + i, 0, 1)).times(2, (x, i) -> x.row(0, 0, 0, 2, 8 + i, 0, 1));
        tried("beyond ints", s.make(), -1, -1, 12L * Edge.MAX, 12, 8);
        Start stopped = Start.READY.ruled("price 7;stop when hour=9;");
        tried("one behind it counts no more", stopped.then(x -> x.row(0, 0, 0, 1, 8, 0, 1), x -> x.row(0, 0, 1, 1, 9, 0, 1),
            x -> x.row(0, 0, 2, 1, 10, 0, 1)).make(), 1, 9, 7, 1, 8);
    }

    private static void triedOnes() {
        Edge.term(53, "PANES that are washed at least once.");
        Start s = Start.READY.then(x -> x.cradle(0, 4, 9));
        int[] shared = {16, 20, 20, 20, 20};
        for (int stop = 0; stop < 5; stop++) {
            int c = stop;
            MenOnCradles x = s.then(y -> y.row(0, 0, 0, 1, 8, 0, 1), y -> y.row(0, 0, c, 1, 9, 0, 1)).make();
            Edge.is("stops 0 and " + stop, shared[stop], x.tried(4));
            MenOnCradles z = s.then(y -> y.row(0, 0, c, 1, 8, 0, 1), y -> y.row(0, 0, 0, 1, 9, 0, 1)).make();
            Edge.is("stops " + stop + " and 0", shared[stop], z.tried(4));
        }
        Edge.is("the same on two sides", 32, s.then(y -> y.row(0, 0, 0, 1, 8, 0, 1), y -> y.row(0, 1, 0, 1, 9, 0, 1)).make().tried(4));
        Edge.is("of two towers", 16 + 20, s.then(y -> y.row(0, 0, 0, 1, 8, 0, 1), y -> y.row(1, 0, 0, 1, 9, 0, 1)).make().tried(4));
        Edge.is("what was made ahead is no matter", 16, s.then(y -> y.drop(0, 0, 0, 1, 8, 0, 1), y -> y.row(0, 0, 0, 1, 9, 0, 1)).make().tried(4));
    }

    private static void triedNothing() {
        Edge.term(53, "Nothing is made by it.");
        for (int what = 0; what < 5; what++) {
            int w = what;
            Edge.refused("tried(" + what + ")", Start.BUSY, x -> x.tried(w) < -1);
            Edge.refused("tried(" + what + ") of a row that may be", Start.READY.ruled("wear 9;price 9;").times(5, (x, i) -> x.row(0, 0, i, 1, 8 + i, 0, 1)),
                x -> x.tried(w) < -1);
            Edge.refused("tried(" + what + ") of a full row", Start.DROPS59.times(12, (x, i) -> x.row(0, 1, 2, 6, 17, 0, 1)), x -> x.tried(w) < -1);
        }
    }

    /** A mark that is laid is as it was, behind a row tried. */
    private static void triedMarks() {
        Edge.term(53, "Nothing is made by it.");
        for (int m = 0; m < 4; m++) {
            int mark = m;
            Start s = Start.READY.ruled("wear 10;").then(x -> x.drop(0, 0, 0, 1, 8, 0, 1), x -> x.mark(mark, false), x -> x.drop(0, 0, 0, 1, 9, 0, 1),
                x -> x.row(0, 0, 2, 1, 10, 0, 1));
            MenOnCradles x = s.make();
            for (int what = 0; what < 5; what++) x.tried(what);
            Edge.is("two drops", 2, x.count(1));
            Edge.is("worn by two", 980, x.stands(0, 1));
            Edge.yes("back to mark " + m, x.mark(m, true));
            Edge.is("one drop", 1, x.count(1));
            Edge.is("worn by one", 990, x.stands(0, 1));
            MenOnCradles none = Start.READY.then(y -> y.row(0, 0, 2, 1, 10, 0, 1)).make();
            for (int what = 0; what < 5; what++) none.tried(what);
            Edge.no("no mark is laid by it", none.mark(m, true));
        }
    }

    private static void triedOthers() {
        Edge.promise(53, "NoSuchElementException: another what.");
        for (Start s : new Start[] {Start.NEW, Start.BUSY}) for (int what : Edge.beyond(0, 4)) Edge.refusedNoSuch("what " + what, s, x -> x.tried(what));
    }

    // -- 56

    private static void marks() {
        Edge.term(56, "MARKS 0 to 3 hold how many DROPS there are, WORN, what was washed;");
        for (int m : Edge.ends(0, 3)) {
            MenOnCradles none = Start.READY.make();
            Edge.yes("laid with no drop", none.mark(m, false));
            none.drop(0, 0, 0, 1, 8, 0, 1);
            Edge.yes("gone back to", none.mark(m, true));
            Edge.is("no drop", 0, none.count(1));
            Edge.yes("again", none.mark(m, true));
            MenOnCradles x = Start.READY.ruled("wear 10;").then(y -> y.drop(0, 0, 0, 1, 8, 0, 1)).make();
            Edge.yes("laid", x.mark(m, false));
            x.drop(0, 0, 1, 2, 8, 0, 1);
            x.drop(5, 0, 0, 1, 8, 0, 1);
            Edge.is("washed since", 2, x.washed(0, 0, 0, 1));
            Edge.is("worn since", 980, x.stands(0, 1));
            Edge.yes("gone back to", x.mark(m, true));
            Edge.is("drops", 1, x.count(1));
            Edge.is("washed", 1, x.washed(0, 0, 0, 1));
            Edge.none("never washed", x.washed(0, 0, 0, 2));
            Edge.is("worn", 990, x.stands(0, 1));
            Edge.is("worn, the other tower", 1000, x.stands(5, 1));
            Edge.is("age as it was", 1, priceOf(x));
        }
        MenOnCradles later = Start.NEW.then(x -> x.mark(0, false), x -> x.tower(0, 1, 1), x -> x.elder(0, true), x -> x.drill(0, 0), x -> x.drill(1, 0),
            x -> x.leave(0, 0, 0, 0)).ruled("wear 7;").then(x -> x.drop(0, 0, 0, 0, 0, 0, 1)).make();
        Edge.is("a tower told since, worn", 993, later.stands(0, 1));
        Edge.yes("back to when there was none", later.mark(0, true));
        Edge.is("the tower stays, not worn", 1000, later.stands(0, 1));
        Edge.is("one tower", 1, later.count(0));
        MenOnCradles full = Start.DROPS59.then(x -> x.mark(3, false), x -> x.drop(0, 1, 2, 6, 17, 0, 1), x -> x.mark(0, false)).make();
        Edge.yes("back to 60", full.mark(0, true));
        Edge.is("60", 60, full.count(1));
        Edge.yes("back to 59", full.mark(3, true));
        Edge.is("59", 59, full.count(1));
        Edge.is("there is room", 59, full.drop(0, 1, 2, 6, 17, 0, 1));
    }

    /** The age that a drop of day 2 over columns 0 and 1 would have. */
    private static long priceOf(MenOnCradles x) {
        Texts.rule(x, "price age;");
        x.row(0, 0, 0, 2, 8, 0, 1);
        return x.tried(2);
    }

    private static void goneBack() {
        Edge.term(56, "DROPS made since are gone when one is gone back to");
        Start s = Start.READY.ruled("wear 5;price 7;water 9;").then(x -> x.mark(1, false), x -> x.drop(0, 2, 0, 3, 8, 0, 1), x -> x.complain(0, 2, 0, 3, 8),
            x -> x.film(0, 2, 0, 99, 0, 23), x -> x.mark(1, true));
        MenOnCradles x = s.make();
        Edge.is("bill", 0, x.bill(-1, 0, 99, 0) + x.bill(-1, 0, 99, 1) + x.bill(-1, 0, 99, 2) + x.bill(-1, 0, 99, 3) + x.bill(-1, 0, 99, 4));
        Edge.is("late", 20, x.late(0, 2, 3, 1));
        Edge.is("scratch", 0, x.scratch(0, 2, 0, 0, 0, 99, 1));
        Edge.is("clashes", 0, x.clashes(0));
        Edge.is("ours", 0, x.ours(0, 0));
        Edge.is("band", 0, x.band(0, 0));
        Edge.is("week", 0, x.week(0, 3, 0));
        Edge.is("water", 0, x.water(0, 2, 0, 0, 0, 99));
        Edge.is("aloft", 0, x.aloft(0, 0, 99));
        Edge.none("learnt", x.learnt(1, 1));
        Edge.none("gap", x.gap(0));
        Edge.is("an earlier day may be again", 0, x.drop(0, 1, 0, 1, 8, 0, 1));
        Edge.is("what is told stays: complaints", 1, x.count(11));
        Edge.is("and films", 1, x.count(10));
    }

    private static void laidBehind() {
        Edge.term(56, "(and MARKS laid behind it).");
        Start s = Start.READY.then(x -> x.mark(3, false), x -> x.drop(0, 0, 0, 1, 8, 0, 1), x -> x.mark(1, false), x -> x.drop(0, 0, 0, 2, 8, 0, 1),
            x -> x.mark(0, false), x -> x.drop(0, 0, 0, 3, 8, 0, 1), x -> x.mark(2, false));
        int[] order = {3, 1, 0, 2};
        for (int i = 0; i < 4; i++) {
            MenOnCradles x = s.make();
            Edge.yes("back to the one laid as " + i, x.mark(order[i], true));
            Edge.is("so many drops", i, x.count(1));
            for (int k = i + 1; k < 4; k++) Edge.no("the one laid as " + k + " is gone", x.mark(order[k], true));
            for (int k = i; k >= 0; k--) Edge.yes("the one laid as " + k + " is there", x.mark(order[k], true));
        }
        Start again = s.then(x -> x.mark(3, false));
        MenOnCradles x = again.make();
        Edge.yes("laid again, it is the last: back to the one ahead", x.mark(2, true));
        Edge.no("it is gone", x.mark(3, true));
        MenOnCradles y = again.make();
        Edge.yes("back to it", y.mark(3, true));
        Edge.is("all three drops", 3, y.count(1));
        Edge.yes("the one ahead is there", y.mark(2, true));
        Edge.refused("back to one that is gone", s.then(z -> z.mark(1, true)), z -> z.mark(2, true));
    }

    private static void markOthers() {
        Edge.promise(56, "A MARK is laid (back: gone back to): true; false: none such, nothing is on it (back).");
        for (boolean back : new boolean[] {true, false}) for (int m : Edge.beyond(0, 3)) Edge.refused("mark " + m, Start.BUSY, x -> x.mark(m, back));
        for (int m = 0; m < 4; m++) { int mark = m; Edge.refused("nothing is on " + m, Start.NEW, x -> x.mark(mark, true)); }
        for (int m : new int[] {1, 3}) Edge.refused("nothing is on " + m, Start.BUSY, x -> x.mark(m, true));
        for (int m : new int[] {0, 2}) Edge.yes("something is on " + m, Start.BUSY.make().mark(m, true));
        Edge.yes("laid over one that is there", Start.BUSY.make().mark(0, false));
    }

    // -- 57

    private static void counts() {
        Edge.promise(57, "What 0: TOWERS, 1: DROPS, 2: NESTS, 3: LEAVES, 4: WANTED, 5: OFFERS, 6: signs on the TAPE, 7: elders, 8: PANES BLOCKED, "
            + "9: lines of KEYS, 10: FILMS, 11: COMPLAINTS, 12: DROPS of the ROW.");
        int[] busy = {3, 7, 2, 13, 4, 3, 13, 2, 3, 4, 2, 4, 3};
        MenOnCradles x = Start.BUSY.make();
        MenOnCradles none = new MenOnCradles();
        for (int what = 0; what < 13; what++) {
            Edge.is("nothing, what " + what, 0, none.count(what));
            Edge.is("something of all, what " + what, busy[what], x.count(what));
        }
        MenOnCradles most = Start.NEW.times(6, (y, t) -> y.tower(t, 12, 10)).times(10, (y, p) -> y.elder(p, true)).times(8, (y, o) -> y.offer(o, 0, 0, 1))
            .times(8, (y, i) -> y.want(0, 1)).times(60, (y, i) -> y.leave(0, 0, 0, 0)).times(20, (y, i) -> y.nest(0, 0, 0, 0, 0, 0))
            .times(60, (y, i) -> y.key(0, 0, 0, 0, i % 2 == 0)).times(12, (y, i) -> y.film(0, 0, 0, 0, 0, 0)).times(40, (y, i) -> y.complain(0, 0, 0, 0, 0))
            .times(12, (y, i) -> y.row(0, 0, 0, 0, 0, 0, 0)).times(42, (y, i) -> y.feed(0x2020202020202020L, 0x2020202020202020L, 0x2020202020202020L)).make();
        int[] full = {6, 0, 20, 60, 8, 8, 1000, 10, 0, 60, 12, 40, 12};
        for (int what = 0; what < 13; what++) Edge.is("as much as can be, what " + what, full[what], most.count(what));
    }

    private static void countOthers() {
        Edge.promise(57, "NONE for another what.");
        for (Start s : new Start[] {Start.NEW, Start.BUSY}) for (int what : Edge.beyond(0, 12)) Edge.refusedNone("what " + what, s, x -> x.count(what));
    }

    private static void constants() {
        Edge.term(1, "The constants: `NONE = -1`: None.");
        Edge.is("NONE", -1, MenOnCradles.NONE);
    }
}
