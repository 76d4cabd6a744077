/** Edges of promises 1 to 10: what is told of towers, weather and people. */
final class EdgesTold {
    private EdgesTold() { }

    static void all() {
        newObject();
        noTower();
        calls512();
        towerNumbers();
        towerSizes();
        towerOnce();
        panePlaces();
        blockedAtFirst();
        nestDays();
        nestPlaces();
        nests20();
        stopsAreColumns();
        openAtFirst();
        width();
        life();
        newRope();
        windSides();
        windSpeed();
        windAgain();
        leaveHours();
        leaves60();
        people();
        drilled();
    }

    private static void newObject() {
        Edge.promise(1, "No TOWER.");
        MenOnCradles x = new MenOnCradles();
        Edge.is("TOWERS", 0, x.count(0));
        for (int t = -1; t <= 6; t++) {
            int tower = t;
            Edge.refusedNone("reach on tower " + t, Start.NEW, y -> y.reach(tower, 0, 0, 0));
            Edge.refused("block on tower " + t, Start.NEW, y -> y.block(tower, 0, 0, 0, true));
            Edge.refused("cradle of tower " + t, Start.NEW, y -> y.cradle(tower, 1, 1));
            Edge.refused("leave for tower " + t, Start.NEW, y -> y.leave(tower, 0, 0, 0));
        }
    }

    /** What each question answers where there is nothing. */
    private static void noTower() {
        Edge.promise(1, "No TOWER.");
        MenOnCradles x = new MenOnCradles();
        for (int what = 0; what <= 12; what++) Edge.is("count(" + what + ")", 0, x.count(what));
        Edge.none("why", x.why(0, 0, 0, 0, 0, 0, 1));
        Edge.none("drop", x.drop(0, 0, 0, 0, 0, 0, 1));
        Edge.none("washed", x.washed(0, 0, 0, 0));
        Edge.none("lost", x.lost(0, 0, 0));
        Edge.none("late", x.late(0, 0, 0, 1));
        Edge.none("reason", x.reason(0, 0, 0, 0, 0, 1));
        Edge.none("cover", x.cover(0, 0, 0));
        Edge.none("scratch", x.scratch(0, 0, 0, 0, 0, 1, 0));
        Edge.none("bill of tower 0", x.bill(0, 0, 99, 0));
        Edge.none("stands", x.stands(0, 1));
        Edge.no("key", x.key(0, 0, 0, 0, true));
        Edge.none("holds", x.holds(0, 0, 0));
        Edge.none("out", x.out(0, 0, 0));
        Edge.no("film", x.film(0, 0, 0, 0, 0, 0));
        Edge.none("clashes", x.clashes(0));
        Edge.none("complain", x.complain(0, 0, 0, 0, 0));
        Edge.none("week", x.week(0, 0, 0));
        Edge.none("water", x.water(0, 0, 0, 0, 0, 99));
        Edge.none("row", x.row(0, 0, 0, 0, 0, 0, 1));
        for (int s = -1; s < 4; s++) Edge.is("against(" + s + ")", 0, x.against(s));
        for (int what = 0; what < 5; what++) Edge.is("bill of all, " + what, 0, x.bill(-1, 0, 99, what));
        for (int b = 0; b < 10; b++) Edge.is("hours in band " + b, 0, x.band(b, 0));
        Edge.none("worst", x.worst());
        Edge.none("ours", x.ours(0, 0));
        for (int p = 0; p < 10; p++) {
            Edge.is("aloft " + p, 0, x.aloft(p, 0, 99));
            Edge.none("learnt " + p, x.learnt(p, 1));
            Edge.none("gap " + p, x.gap(p));
        }
        for (int what = 0; what < 3; what++) Edge.is("hindsight(" + what + ")", 0, x.hindsight(what));
    }

    private static void calls512() {
        Edge.term(1, "An object is used for at most 512 calls after it has been made; what later calls answer is free.");
        MenOnCradles x = Start.DROPS59.make();
        int calls = Start.DROPS59.size();
        while (calls < 510) {
            Edge.is("fed a blank", calls - Start.DROPS59.size() + 1, x.feed(0, ' ', 0));
            calls++;
        }
        Edge.is("the 511th call", 59, x.drop(0, 1, 2, 6, 17, 0, 1));
        Edge.is("the 512th call", 60, x.count(1));
    }

    private static void towerNumbers() {
        Edge.term(2, "TOWERS 0 to 5 have FLOORS (1 to 12) and COLUMNS (1 to 10) when they are told");
        for (int t : Edge.ends(0, 5)) {
            Edge.yes("tower " + t, Start.NEW.make().tower(t, 6, 6));
            MenOnCradles x = Start.NEW.then(y -> y.tower(t, 6, 6)).make();
            Edge.is("it is there", 12, x.reach(t, 0, 0, 0));
        }
        for (int t : Edge.beyond(0, 5)) {
            Edge.refused("tower " + t, Start.NEW, x -> x.tower(t, 6, 6));
            Edge.refused("tower " + t, Start.BUSY, x -> x.tower(t, 6, 6));
        }
    }

    private static void towerSizes() {
        Edge.promise(2, "A TOWER is told, once: true; false: others.");
        for (int floors : Edge.ends(1, 12)) {
            for (int columns : Edge.ends(1, 10)) {
                MenOnCradles x = new MenOnCradles();
                Edge.yes(floors + " floors, " + columns + " columns", x.tower(3, floors, columns));
                Edge.is("the last stop reaches the last column", floors, x.reach(3, 3, columns - 1, 99));
                Edge.none("no stop beyond", x.reach(3, 3, columns, 99));
                Edge.none("the highest floor, never washed", x.washed(3, 3, floors - 1, columns - 1));
                Edge.yes("it is a pane", x.block(3, 3, floors - 1, columns - 1, true));
                Edge.no("none above", x.block(3, 3, floors, columns - 1, true));
            }
        }
        for (int floors : Edge.beyond(1, 12)) Edge.refused(floors + " floors", Start.BUSY, x -> x.tower(2, floors, 1));
        for (int columns : Edge.beyond(1, 10)) Edge.refused(columns + " columns", Start.BUSY, x -> x.tower(2, 1, columns));
        Edge.refused("12 columns and 10 floors", Start.BUSY, x -> x.tower(2, 10, 12));
    }

    private static void towerOnce() {
        Edge.promise(2, "A TOWER is told, once: true; false: others.");
        Edge.refused("as it was", Start.BUSY, x -> x.tower(0, 4, 5));
        Edge.refused("otherwise", Start.BUSY, x -> x.tower(0, 12, 10));
        Edge.refused("lesser", Start.BUSY, x -> x.tower(5, 1, 1));
        MenOnCradles x = new MenOnCradles();
        for (int t = 5; t >= 0; t--) Edge.yes("tower " + t, x.tower(t, 1, 1));
        Edge.is("all six", 6, x.count(0));
        for (int t = 0; t < 6; t++) Edge.no("tower " + t + " again", x.tower(t, 1, 1));
        Edge.is("still six", 6, x.count(0));
    }

    private static void panePlaces() {
        Edge.term(3, "on each SIDE (0 to 3) a PANE at each FLOOR (from 0, the lowest) and COLUMN (from 0).");
        Edge.promise(3, "A PANE is BLOCKED or not: true; false: none such.");
        for (int side : Edge.ends(0, 3)) {
            for (int floor : Edge.ends(0, 9)) {
                for (int column : Edge.ends(0, 2)) {
                    MenOnCradles x = Start.READY.make();
                    Edge.yes("pane " + side + " " + floor + " " + column, x.block(1, side, floor, column, true));
                    Edge.is("one", 1, x.count(8));
                    Edge.is("it is not reached", column == 0 ? 19 : 9, x.reach(1, side, column, 0));
                }
            }
        }
        for (boolean yes : new boolean[] {true, false}) {
            for (int t : new int[] {-1, 2, 4, 6, Edge.MIN, Edge.MAX}) Edge.refused("tower " + t, Start.BUSY, x -> x.block(t, 0, 0, 0, yes));
            for (int s : Edge.beyond(0, 3)) Edge.refused("side " + s, Start.BUSY, x -> x.block(0, s, 3, 1, yes));
            for (int f : Edge.beyond(0, 3)) Edge.refused("floor " + f, Start.BUSY, x -> x.block(0, 0, f, 1, yes));
            for (int c : Edge.beyond(0, 4)) Edge.refused("column " + c, Start.BUSY, x -> x.block(0, 0, 3, c, yes));
        }
        Edge.refused("a floor of tower 1, not of tower 0", Start.BUSY, x -> x.block(0, 0, 4, 1, true));
        Edge.refused("a column of tower 0, not of tower 1", Start.BUSY, x -> x.block(1, 0, 0, 3, true));
    }

    private static void blockedAtFirst() {
        Edge.term(3, "A PANE is BLOCKED or not (not at first)");
        MenOnCradles x = Start.READY.make();
        for (int s = 0; s < 4; s++) for (int c = 0; c < 10; c += 2) Edge.is("all are reached", 24, x.reach(5, s, c, 0));
        Edge.is("none is blocked", 0, x.count(8));
        Edge.yes("not blocked, told so", x.block(5, 0, 0, 0, false));
        Edge.is("none", 0, x.count(8));
        for (int f = 0; f < 12; f++) for (int c = 0; c < 10; c++) x.block(5, 3, f, c, true);
        Edge.is("a whole side", 120, x.count(8));
        for (int c = 0; c < 10; c++) Edge.is("nothing to reach", 0, x.reach(5, 3, c, 0));
        Edge.is("another side", 24, x.reach(5, 2, 8, 0));
        Edge.yes("blocked again", x.block(5, 3, 11, 9, true));
        Edge.is("counted once", 120, x.count(8));
        Edge.yes("one is free", x.block(5, 3, 11, 9, false));
        Edge.is("one less", 119, x.count(8));
        Edge.is("it is reached", 1, x.reach(5, 3, 9, 0));
    }

    private static void nestDays() {
        Edge.term(4, "are on a PANE from a DAY to another one (both too).");
        Edge.promise(4, "A NEST: true; false: others (from above to).");
        for (int from : new int[] {0, 1, 98, 99}) {
            for (int to = from; to < 100; to += 99 - from > 0 ? 99 - from : 1) {
                MenOnCradles x = Start.READY.make();
                Edge.yes("from " + from + " to " + to, x.nest(0, 1, 2, 3, from, to));
                Edge.is("on the first day", 7, x.reach(0, 1, 3, from));
                Edge.is("on the last day", 7, x.reach(0, 1, 3, to));
                if (from > 0) Edge.is("ahead of it", 8, x.reach(0, 1, 3, from - 1));
                if (to < 99) Edge.is("behind it", 8, x.reach(0, 1, 3, to + 1));
                for (int t : new int[] {0, 1, 5}) for (int s = 0; s < 4; s++) for (int c = 0; c < 3; c++) {
                    boolean its = t == 0 && s == 1 && c == 2;
                    Edge.is("on other sides and roofs", (t == 0 ? 8 : t == 1 ? c == 2 ? 10 : 20 : 24) - (its ? 1 : 0), x.reach(t, s, c, from));
                }
            }
        }
        Edge.refused("from above to by one", Start.BUSY, x -> x.nest(0, 0, 1, 2, 5, 4));
        Edge.refused("from above to", Start.BUSY, x -> x.nest(0, 0, 1, 2, 99, 0));
        for (int d : Edge.beyond(0, 99)) {
            Edge.refused("from " + d, Start.BUSY, x -> x.nest(0, 0, 1, 2, d, 99));
            Edge.refused("to " + d, Start.BUSY, x -> x.nest(0, 0, 1, 2, 0, d));
            Edge.refused("both " + d, Start.BUSY, x -> x.nest(0, 0, 1, 2, d, d));
        }
        for (int t : new int[] {-1, 2, 6}) Edge.refused("tower " + t, Start.BUSY, x -> x.nest(t, 0, 0, 0, 0, 9));
        for (int s : Edge.beyond(0, 3)) Edge.refused("side " + s, Start.BUSY, x -> x.nest(0, s, 0, 0, 0, 9));
        for (int f : Edge.beyond(0, 3)) Edge.refused("floor " + f, Start.BUSY, x -> x.nest(0, 0, f, 0, 0, 9));
        for (int c : Edge.beyond(0, 4)) Edge.refused("column " + c, Start.BUSY, x -> x.nest(0, 0, 0, c, 0, 9));
    }

    private static void nestPlaces() {
        Edge.promise(4, "A NEST: true; false: others (from above to).");
        for (int t : Edge.ends(0, 5)) for (int s : Edge.ends(0, 3)) for (int f : Edge.ends(0, 11)) for (int c : Edge.ends(0, 9)) {
            MenOnCradles x = Start.NEW.times(6, (y, i) -> y.tower(i, 12, 10)).make();
            Edge.yes("a nest on " + t + " " + s + " " + f + " " + c, x.nest(t, s, f, c, 7, 7));
            for (int tower = 0; tower < 6; tower++) for (int side = 0; side < 4; side++) for (int stop = 0; stop < 10; stop++) {
                boolean there = tower == t && side == s && (stop == c || stop + 1 == c);
                Edge.is("reach " + tower + " " + side + " " + stop, (stop == 9 ? 12 : 24) - (there ? 1 : 0), x.reach(tower, side, stop, 7));
            }
            for (int side = 0; side < 4; side++) {
                Edge.is("the reason of its pane", side == s ? 3 : 4, x.reason(t, side, f, c, 7, 1));
                Edge.is("the reason of the pane on another roof", 4, x.reason(5 - t, side, f, c, 7, 1));
            }
        }
    }

    private static void nests20() {
        Edge.term(4, "NESTS, 20 at most,");
        Start nineteen = Start.BUSY.times(17, (x, i) -> x.nest(5, 1, 0, i % 10, i, i));
        MenOnCradles x = nineteen.make();
        Edge.is("19 are there", 19, x.count(2));
        Edge.yes("the 20th", x.nest(5, 1, 11, 9, 99, 99));
        Edge.is("20 are there", 20, x.count(2));
        Edge.is("it hides its pane", 11, x.reach(5, 1, 9, 99));
        Start twenty = nineteen.then(y -> y.nest(5, 1, 11, 9, 99, 99));
        Edge.refused("a 21st", twenty, y -> y.nest(5, 1, 11, 9, 99, 99));
        Edge.refused("a 21st elsewhere", twenty, y -> y.nest(0, 0, 0, 0, 0, 99));
    }

    private static void stopsAreColumns() {
        Edge.term(5, "STOPS of a SIDE are the COLUMNS, each open or shut");
        Edge.promise(5, "A STOP is open or shut: true; false: none such.");
        for (int side : Edge.ends(0, 3)) {
            for (int stop : Edge.ends(0, 4)) {
                MenOnCradles x = Start.READY.make();
                Edge.yes("shut", x.rail(0, side, stop, false));
                for (int s = 0; s < 4; s++) for (int c = 0; c < 5; c++) {
                    Edge.is("WHY at stop " + c + " of side " + s, s == side && c == stop ? 1 : 0, x.why(0, s, c, 1, 8, 0, 1));
                }
                Edge.yes("shut again", x.rail(0, side, stop, false));
                Edge.yes("open", x.rail(0, side, stop, true));
                Edge.is("it may be", 0, x.why(0, side, stop, 1, 8, 0, 1));
            }
        }
        for (boolean open : new boolean[] {true, false}) {
            for (int t : new int[] {-1, 2, 6, Edge.MAX}) Edge.refused("tower " + t, Start.BUSY, x -> x.rail(t, 0, 0, open));
            for (int s : Edge.beyond(0, 3)) Edge.refused("side " + s, Start.BUSY, x -> x.rail(0, s, 0, open));
            for (int c : Edge.beyond(0, 4)) Edge.refused("stop " + c, Start.BUSY, x -> x.rail(0, 0, c, open));
            for (int c : Edge.beyond(0, 2)) Edge.refused("stop " + c + " of tower 1", Start.BUSY, x -> x.rail(1, 0, c, open));
        }
    }

    private static void openAtFirst() {
        Edge.term(5, "(open at first).");
        MenOnCradles x = Start.READY.make();
        for (int s = 0; s < 4; s++) for (int c = 0; c < 10; c++) Edge.is("WHY at " + s + " " + c, 0, x.why(5, s, c, 1, 8, 0, 1));
        for (int c = 0; c < 5; c++) x.rail(0, 0, c, false);
        for (int c = 0; c < 5; c++) Edge.is("all shut", 1, x.why(0, 0, c, 1, 8, 0, 1));
        Edge.is("a shut stop reaches as it did", 8, x.reach(0, 0, 0, 0));
    }

    private static void width() {
        Edge.term(6, "A CRADLE of a TOWER: WIDTH (1 to 4; 2 at first)");
        Edge.promise(6, "A CRADLE's WIDTH");
        MenOnCradles x = Start.READY.make();
        for (int t : new int[] {0, 1, 5}) Edge.is("2 at first", t == 0 ? 8 : t == 1 ? 20 : 24, x.reach(t, 0, 0, 0));
        for (int w : Edge.ends(1, 4)) {
            Edge.yes("width " + w, x.cradle(5, w, 1000));
            Edge.is("reaches", 12 * w, x.reach(5, 0, 6, 0));
            Edge.is("what there is", 12, x.reach(5, 0, 9, 0));
            Edge.is("the other tower's stays", 8, x.reach(0, 0, 0, 0));
        }
        for (int w : Edge.beyond(1, 4)) Edge.refused("width " + w, Start.BUSY, y -> y.cradle(0, w, 500));
        for (int t : new int[] {-1, 2, 4, 6, Edge.MIN, Edge.MAX}) Edge.refused("tower " + t, Start.BUSY, y -> y.cradle(t, 2, 500));
    }

    private static void life() {
        Edge.term(6, "LIFE of its rope (1 to 9999; 1000 at first)");
        Edge.promise(6, "and LIFE");
        MenOnCradles x = Start.READY.make();
        for (int t : new int[] {0, 1, 5}) Edge.is("1000 at first", 1000, x.stands(t, 1));
        for (int life : Edge.ends(1, 9999)) {
            Edge.yes("life " + life, x.cradle(1, 2, life));
            Edge.is("it stands", life, x.stands(1, 1));
            Edge.is("the other tower's stays", 1000, x.stands(0, 1));
        }
        for (int life : Edge.beyond(1, 9999)) Edge.refused("life " + life, Start.BUSY, y -> y.cradle(0, 3, life));
    }

    private static void newRope() {
        Edge.term(6, "WORN (0 at first).");
        Edge.promise(6, "(a new rope: WORN 0): true; false: others.");
        MenOnCradles x = Start.READY.ruled("wear 1000;price worn;").make();
        x.drop(0, 0, 0, 1, 8, 0, 1);
        Edge.is("0 at first", 0, x.made(0, 8));
        Edge.is("worn to its life", 0, x.stands(0, 1));
        Edge.is("no more", 11, x.why(0, 0, 0, 1, 9, 0, 1));
        Edge.yes("as it was, but new", x.cradle(0, 2, 1000));
        Edge.is("not worn", 1000, x.stands(0, 1));
        Edge.is("it may be", 0, x.why(0, 0, 0, 1, 9, 0, 1));
        Edge.is("what was made stays", 1, x.count(1));
        x.drop(0, 0, 0, 1, 9, 0, 1);
        Edge.is("0 again", 0, x.made(1, 8));
        Start worn = Start.READY.ruled("wear 1000;").then(y -> y.drop(0, 0, 0, 1, 8, 0, 1));
        Edge.refused("no width: no new rope", worn, y -> y.cradle(0, 5, 1000));
        Edge.refused("no life: no new rope", worn, y -> y.cradle(0, 2, 10000));
    }

    private static void windSides() {
        Edge.term(7, "WIND on a SIDE (of all TOWERS) in an HOUR of a DAY");
        Edge.term(7, "DAYS 0 to 99, the weekday is DAY modulo 7; HOURS 0 to 23.");
        Edge.promise(7, "WIND: true; false: others.");
        for (int side : Edge.ends(0, 3)) for (int day : Edge.ends(0, 99)) for (int hour : Edge.ends(0, 23)) {
            MenOnCradles x = Start.READY.then(y -> y.leave(0, 0, 0, 23), y -> y.leave(0, 99, 0, 23), y -> y.leave(5, 0, 0, 23),
                y -> y.leave(5, 99, 0, 23)).ruled("stop when 0<wind;").make();
            Edge.yes("wind " + side + " " + day + " " + hour, x.wind(side, day, hour, 1));
            for (int s = 0; s < 4; s++) for (int d : Edge.ends(0, 99)) for (int t : new int[] {0, 5}) {
                Edge.is("of all towers, there alone", s == side && d == day ? 1 : 0, x.lost(t, s, d));
            }
        }
        for (int s : Edge.beyond(0, 3)) Edge.refused("side " + s, Start.BUSY, x -> x.wind(s, 2, 10, 50));
        for (int d : Edge.beyond(0, 99)) Edge.refused("day " + d, Start.BUSY, x -> x.wind(0, d, 10, 50));
        for (int h : Edge.beyond(0, 23)) Edge.refused("hour " + h, Start.BUSY, x -> x.wind(0, 2, h, 50));
    }

    private static void windSpeed() {
        Edge.term(7, "is 0 to 99 (0 at first)");
        MenOnCradles x = Start.READY.ruled("stop when wind=99;price wind;").make();
        Edge.is("0 at first", 0, x.lost(0, 1, 1));
        x.drop(0, 1, 0, 1, 8, 0, 1);
        Edge.is("0", 0, x.made(0, 8));
        Edge.yes("98", x.wind(1, 1, 9, 98));
        Edge.is("98 is not 99", 0, x.lost(0, 1, 1));
        Edge.yes("99", x.wind(1, 1, 9, 99));
        Edge.is("99", 1, x.lost(0, 1, 1));
        Edge.yes("0", x.wind(1, 1, 9, 0));
        Edge.is("0 again", 0, x.lost(0, 1, 1));
        for (int v : Edge.beyond(0, 99)) {
            Edge.refused("speed " + v, Start.BUSY, y -> y.wind(0, 2, 9, v));
            Edge.refused("speed " + v + " where none was told", Start.BUSY, y -> y.wind(2, 2, 9, v));
        }
    }

    private static void windAgain() {
        Edge.term(7, "; it may be told again.");
        MenOnCradles x = Start.READY.ruled("price wind;").make();
        for (int v : new int[] {99, 0, 64, 63, 1}) {
            Edge.yes("told " + v, x.wind(2, 1, 8, v));
            x.row(0, 2, 0, 1, 8, 0, 1);
            Edge.is("the last counts", v, x.tried(2));
            x.clear();
        }
        x.wind(1, 1, 8, 99);
        x.wind(3, 1, 8, 98);
        x.row(0, 2, 0, 1, 8, 0, 1);
        Edge.is("the sides beside don't", 1, x.tried(2));
    }

    private static void leaveHours() {
        Edge.term(8, "LEAVE for a TOWER's roof on a DAY is from an HOUR to another one (both too)");
        Edge.promise(8, "LEAVE: true; false: others (from above to).");
        for (int[] hours : new int[][] {{0, 0}, {0, 23}, {23, 23}, {7, 9}}) {
            for (int day : Edge.ends(0, 99)) {
                MenOnCradles x = Start.READY.ruled("stop when 1;").make();
                Edge.yes("leave on " + day + " from " + hours[0] + " to " + hours[1], x.leave(0, day, hours[0], hours[1]));
                Edge.is("so many hours", hours[1] - hours[0] + 1, x.lost(0, 0, day));
                Edge.is("no other day", 0, x.lost(0, 0, day == 0 ? 99 : 0));
                Edge.is("no other tower", 0, x.lost(5, 0, day));
            }
        }
        MenOnCradles x = Start.READY.then(y -> y.leave(0, 9, 7, 9)).times(2, (y, p) -> y.drill(p, 9)).make();
        for (int h = 6; h <= 10; h++) Edge.is("hour " + h, h >= 7 && h <= 9 ? 0 : 8, x.why(0, 0, 0, 9, h, 0, 1));
        Edge.refused("from above to by one", Start.BUSY, y -> y.leave(0, 7, 9, 8));
        Edge.refused("from 23 to 0", Start.BUSY, y -> y.leave(0, 7, 23, 0));
        for (int t : new int[] {-1, 2, 4, 6, Edge.MIN, Edge.MAX}) Edge.refused("tower " + t, Start.BUSY, y -> y.leave(t, 7, 8, 9));
        for (int d : Edge.beyond(0, 99)) Edge.refused("day " + d, Start.BUSY, y -> y.leave(0, d, 8, 9));
        for (int h : Edge.beyond(0, 23)) {
            Edge.refused("from " + h, Start.BUSY, y -> y.leave(0, 7, h, 23));
            Edge.refused("to " + h, Start.BUSY, y -> y.leave(0, 7, 0, h));
            Edge.refused("both " + h, Start.BUSY, y -> y.leave(0, 7, h, h));
        }
    }

    private static void leaves60() {
        Edge.term(8, "60 at most.");
        Start most = Start.BUSY.times(46, (x, i) -> x.leave(5, 40 + i, 0, 0));
        MenOnCradles x = most.make();
        Edge.is("59 are there", 59, x.count(3));
        Edge.yes("the 60th", x.leave(0, 7, 9, 9));
        Edge.is("60 are there", 60, x.count(3));
        Edge.is("it counts", 0, x.why(0, 1, 0, 7, 9, 0, 1));
        Start full = most.then(y -> y.leave(0, 7, 9, 9));
        Edge.refused("a 61st", full, y -> y.leave(0, 7, 10, 23));
        Edge.refused("a 61st, one that is there", full, y -> y.leave(0, 7, 9, 9));
    }

    private static void people() {
        Edge.term(9, "PEOPLE 0 to 9: elders or not (not at first)");
        Edge.promise(9, "An elder or not: true; false: no such one.");
        Edge.is("not at first", 0, new MenOnCradles().count(7));
        for (int p : Edge.ends(0, 9)) {
            MenOnCradles x = Start.NEW.make();
            Edge.yes("not, told so", x.elder(p, false));
            Edge.is("none", 0, x.count(7));
            Edge.yes("elder " + p, x.elder(p, true));
            Edge.is("one", 1, x.count(7));
            Edge.yes("again", x.elder(p, true));
            Edge.is("one still", 1, x.count(7));
            Edge.yes("not any more", x.elder(p, false));
            Edge.is("none again", 0, x.count(7));
        }
        MenOnCradles x = Start.NEW.times(10, (y, p) -> y.elder(p, true)).make();
        Edge.is("all ten", 10, x.count(7));
        for (int p : Edge.beyond(0, 9)) {
            Edge.refused("elder " + p, Start.BUSY, y -> y.elder(p, true));
            Edge.refused("no elder " + p, Start.BUSY, y -> y.elder(p, false));
        }
    }

    private static void drilled() {
        Edge.term(10, "DRILLED last on a DAY or never.");
        Edge.promise(10, "DRILLED last on a DAY: true; false: others.");
        MenOnCradles never = Start.READY.then(y -> y.leave(0, 0, 0, 23), y -> y.leave(0, 99, 0, 23)).make();
        Edge.is("9 never was, day 0", 7, never.why(0, 0, 0, 0, 8, 0, 9));
        Edge.is("9 never was, day 99", 7, never.why(0, 0, 0, 99, 8, 0, 9));
        for (int p : Edge.ends(0, 9)) for (int day : Edge.ends(0, 99)) {
            MenOnCradles x = Start.NEW.then(y -> y.tower(0, 1, 1), y -> y.elder(p, true), y -> y.drill(4, day),
                y -> y.leave(0, day, 0, 0)).make();
            Edge.is("not drilled", 7, x.why(0, 0, 0, day, 0, p, 4));
            Edge.yes("drill " + p + " on " + day, x.drill(p, day));
            Edge.is("drilled", 0, x.why(0, 0, 0, day, 0, p, 4));
        }
        for (int p : Edge.beyond(0, 9)) Edge.refused("person " + p, Start.BUSY, y -> y.drill(p, 4));
        for (int d : Edge.beyond(0, 99)) Edge.refused("day " + d, Start.BUSY, y -> y.drill(0, d));
    }
}
