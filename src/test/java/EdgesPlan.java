/** Edges of promises 26 to 30, 54 and 55: what is wanted, chances, plans, the row chosen ahead, and hindsight. */
final class EdgesPlan {
    private EdgesPlan() { }

    static void all() {
        wanted8();
        wantOthers();
        chances();
        chanceOthers();
        oneSideADay();
        cap();
        plan();
        first();
        planOthers();
        fixed();
        fixedFirstInOrder();
        eachRow();
        toldSince();
        fixedOthers();
        came();
        cameOthers();
        hindsight();
        hindsightOthers();
    }

    private static Start chanced(Start s, int ten) { return s.times(20, (x, i) -> x.chance(i / 4, i % 4, ten)); }

    private static void is(String what, MenOnCradles x, int day, int left, long above, long below) {
        Edge.is(what + ", above", above, x.plan(day, left, 0));
        Edge.is(what + ", below", below, x.plan(day, left, 1));
    }

    // -- 26

    private static void wanted8() {
        Edge.term(26, "WANTED, 8 at most: a SIDE and a WORTH (1 to 99).");
        for (int side : Edge.ends(0, 3)) for (int worth : Edge.ends(1, 99)) {
            MenOnCradles x = chanced(Start.NEW, 10).make();
            Edge.is("side " + side + ", worth " + worth, 0, x.want(side, worth));
            is("it is wanted", x, 4, 1, worth, 1);
            Edge.is("on its side", side, x.plan(4, 1, 2));
        }
        Start seven = chanced(Start.NEW, 10).times(7, (x, i) -> x.want(i % 4, 1 + i * 14)).then(x -> x.cap(8));
        MenOnCradles x = seven.make();
        Edge.is("7 are there", 7, x.count(4));
        Edge.is("the 8th", 7, x.want(3, 99));
        Edge.is("8 are there", 8, x.count(4));
        is("all in four days", x, 1, 255, 7 + 14 * 21 + 99, 1);
        Start eight = seven.then(y -> y.want(3, 99));
        for (int side = 0; side < 4; side++) { int s = side; Edge.refusedNone("a 9th on side " + s, eight, y -> y.want(s, 1)); }
        Edge.refusedNone("a 9th as the 8th", eight, y -> y.want(3, 99));
    }

    private static void wantOthers() {
        Edge.promise(26, "A WANTED one: its number; NONE: others, 8 are there.");
        MenOnCradles x = new MenOnCradles();
        for (int i = 0; i < 8; i++) Edge.is("its number", i, x.want(0, 1));
        for (Start s : new Start[] {Start.NEW, Start.BUSY}) {
            for (int side : Edge.beyond(0, 3)) Edge.refusedNone("side " + side, s, y -> y.want(side, 1));
            for (int worth : Edge.beyond(1, 99)) Edge.refusedNone("worth " + worth, s, y -> y.want(0, worth));
        }
    }

    // -- 27

    private static void chances() {
        Edge.term(27, "CHANCES: of ten, that a SIDE can be worked on a plan's day 0 to 4 (0 to 10; 5 at first).");
        for (int side = 0; side < 4; side++) {
            int s = side;
            Start one = Start.NEW.then(x -> x.want(s, 1));
            is("5 at first, the last day", one.make(), 4, 1, 1, 2);
            is("5 at first, all days", one.make(), 0, 1, 31, 32);
            for (int ten = 0; ten <= 10; ten++) {
                MenOnCradles x = one.make();
                Edge.yes("day 4, " + ten + " of ten", x.chance(4, s, ten));
                int g = ten == 0 ? 10 : ten == 5 ? 5 : ten == 10 ? 10 : ten % 2 == 0 ? 2 : 1;
                is(ten + " of ten", x, 4, 1, ten / g, 10 / g);
            }
        }
        for (int day : Edge.ends(0, 4)) {
            MenOnCradles x = chanced(Start.NEW.then(y -> y.want(2, 7)), 0).make();
            Edge.yes("day " + day, x.chance(day, 2, 10));
            for (int d = 0; d < 5; d++) is("from day " + d, x, d, 1, d <= day ? 7 : 0, 1);
            Edge.yes("told again", x.chance(day, 2, 0));
            is("none then", x, 0, 1, 0, 1);
        }
        is("1 of ten on five days", chanced(Start.NEW.then(y -> y.want(3, 1)), 1).make(), 0, 1, 40951, 100000);
        is("9 of ten on five days", chanced(Start.NEW.then(y -> y.want(3, 1)), 9).make(), 0, 1, 99999, 100000);
    }

    private static void chanceOthers() {
        Edge.promise(27, "A CHANCE: true; false: others.");
        for (int d : Edge.beyond(0, 4)) Edge.refused("day " + d, Start.BUSY, x -> x.chance(d, 0, 1));
        for (int s : Edge.beyond(0, 3)) Edge.refused("side " + s, Start.BUSY, x -> x.chance(0, s, 1));
        for (int n : Edge.beyond(0, 10)) Edge.refused(n + " of ten", Start.BUSY, x -> x.chance(0, 0, n));
    }

    // -- 28

    private static void oneSideADay() {
        Edge.term(28, "On each day one SIDE is chosen (or none); if it can be worked, the WANTED ones of it that are left, the greatest WORTH "
            + "first (of equal ones the first), CAP");
        Start s = chanced(Start.NEW, 10).then(x -> x.want(0, 3), x -> x.want(0, 9), x -> x.want(1, 8), x -> x.want(0, 9), x -> x.want(0, 4));
        MenOnCradles x = s.make();
        is("a day: the two greatest of a side", x, 4, 31, 18, 1);
        is("two days: one more side, or the rest", x, 3, 31, 26, 1);
        is("three days: all", x, 2, 31, 33, 1);
        is("more days: no more", x, 0, 31, 33, 1);
        is("of those left", x, 4, 1 + 16, 7, 1);
        is("of those left, another side", x, 4, 1 + 4, 8, 1);
        is("none left", x, 4, 0, 0, 1);
        MenOnCradles never = chanced(s, 0).make();
        is("if it can't be worked, nothing", never, 0, 31, 0, 1);
    }

    private static void cap() {
        Edge.term(28, "(1 to 8; 2 at first) at most, are done.");
        Edge.promise(28, "CAP: true; false: others.");
        Start s = chanced(Start.NEW, 10).times(8, (x, i) -> x.want(2, 1 << Math.min(i, 6)));
        is("2 at first", s.make(), 4, 255, 128, 1);
        int[] sums = {64, 128, 160, 176, 184, 188, 190, 191};
        for (int n = 1; n <= 8; n++) {
            MenOnCradles x = s.make();
            Edge.yes("cap " + n, x.cap(n));
            is("cap " + n, x, 4, 255, sums[n - 1], 1);
            is("cap " + n + ", just one is left", x, 4, 1, 1, 1);
        }
        for (int n : Edge.beyond(1, 8)) Edge.refused("cap " + n, Start.BUSY, x -> x.cap(n));
    }

    // -- 29

    private static void plan() {
        Edge.term(29, "PLAN: what is done is worth, by chances, at the most, from a day on with some left;");
        Edge.promise(29, "PLAN from a day with some left (as bits), what 0: above, 1: below (lowest terms),");
        MenOnCradles none = new MenOnCradles();
        for (int day = 0; day < 5; day++) is("nothing is wanted", none, day, 0, 0, 1);
        MenOnCradles x = Start.NEW.then(y -> y.want(0, 10), y -> y.want(3, 10), y -> y.cap(1)).make();
        is("day 4, both", x, 4, 3, 5, 1);
        is("day 4, the first", x, 4, 1, 5, 1);
        is("day 4, the second", x, 4, 2, 5, 1);
        is("day 3, both", x, 3, 3, 10, 1);
        is("day 3, one", x, 3, 2, 15, 2);
        is("day 2, both", x, 2, 3, 55, 4);
        is("day 0, one", x, 0, 1, 155, 16);
        is("day 0, none left", x, 0, 0, 0, 1);
        MenOnCradles most = chanced(Start.NEW.times(8, (y, i) -> y.want(i % 4, 99)), 10).make();
        is("the most that can be worth", most, 0, 255, 792, 1);
        is("of a day", most, 4, 255, 198, 1);
    }

    private static void first() {
        Edge.term(29, "FIRST: the SIDE to choose (the least of equal ones; none if no SIDE brings more than none).");
        Edge.promise(29, "2: FIRST (NONE: none).");
        MenOnCradles x = Start.NEW.times(4, (y, s) -> y.want(3 - s, 10)).then(y -> y.cap(1)).make();
        Edge.is("all are equal", 0, x.plan(4, 15, 2));
        Edge.is("not side 0", 1, x.plan(4, 7, 2));
        Edge.is("sides 2 and 3", 2, x.plan(4, 3, 2));
        Edge.is("side 3 alone", 3, x.plan(4, 1, 2));
        Edge.none("none is left", x.plan(4, 0, 2));
        x.chance(4, 2, 6);
        Edge.is("a greater one behind", 2, x.plan(4, 15, 2));
        Edge.is("equal ones on another day", 0, x.plan(3, 15, 2));
        for (int s = 0; s < 4; s++) x.chance(4, s, 0);
        Edge.none("no side can be worked", x.plan(4, 15, 2));
        Edge.is("on the day ahead it can", 0, x.plan(3, 15, 2));
        MenOnCradles sure = chanced(Start.NEW.then(y -> y.want(1, 5)), 10).make();
        for (int day = 0; day < 5; day++) Edge.is("no day is better than the last", day == 4 ? 1 : -1, sure.plan(day, 1, 2));
        Edge.none("nothing is wanted", new MenOnCradles().plan(0, 0, 2));
    }

    private static void planOthers() {
        Edge.promise(29, "NoSuchElementException: others.");
        for (int d : Edge.beyond(0, 4)) for (int what = 0; what < 3; what++) { int w = what; Edge.refusedNoSuch("day " + d, Start.BUSY, x -> x.plan(d, 0, w)); }
        for (int what : Edge.beyond(0, 2)) Edge.refusedNoSuch("what " + what, Start.BUSY, x -> x.plan(0, 0, what));
        Edge.is("all four left", 0, Start.BUSY.make().plan(4, 15, 2) < 0 ? 1 : 0);
        for (int left : new int[] {-1, 16, 31, 255, 256, -16, Edge.MIN, Edge.MAX}) Edge.refusedNoSuch("left " + left + " of four", Start.BUSY, x -> x.plan(0, left, 0));
        for (int left : new int[] {-1, 1, 2, 128}) Edge.refusedNoSuch("left " + left + " of none", Start.NEW, x -> x.plan(0, left, 0));
        Start eight = Start.NEW.times(8, (x, i) -> x.want(0, 1));
        Edge.is("255 of eight", 0, eight.make().plan(0, 255, 2));
        Edge.refusedNoSuch("256 of eight", eight, x -> x.plan(0, 256, 2));
        Edge.refused("a plan that is made", Start.BUSY, x -> x.plan(0, 15, 1) == 0);
    }

    // -- 30

    private static void fixed() {
        Edge.term(30, "FIXED: the best that can be had if the SIDES of all days are chosen ahead;");
        Edge.promise(30, "FIXED from day 0 with all, what 0: above, 1: below, 2 to 6: the SIDE of day 0 to 4 (NONE: none).");
        MenOnCradles x = new MenOnCradles();
        Edge.is("nothing is wanted", 0, x.fixed(0));
        Edge.is("nothing, below", 1, x.fixed(1));
        x.want(3, 1);
        Edge.is("one, five times a half", 31, x.fixed(0));
        Edge.is("below", 32, x.fixed(1));
        for (int what = 2; what <= 6; what++) Edge.is("side 3 each day", 3, x.fixed(what));
        // One for sure on its side: then five days are shared, by three and two.
        MenOnCradles two = Start.NEW.then(y -> y.want(1, 8), y -> y.want(2, 8), y -> y.cap(1)).make();
        Edge.is("7/8 and 3/4 of 8", 13, two.fixed(0));
        Edge.is("whole", 1, two.fixed(1));
        int[] row = {1, 1, 1, 2, 2};
        for (int d = 0; d < 5; d++) Edge.is("the first in order, day " + d, row[d], two.fixed(2 + d));
        Edge.is("by plan it is more: the other's days are free once one is done", 1, two.plan(0, 3, 0) > 13 * two.plan(0, 3, 1) ? 1 : 0);
    }

    private static void fixedFirstInOrder() {
        Edge.term(30, "the row of SIDES, the first in order (none comes behind SIDE 3).");
        MenOnCradles x = chanced(Start.NEW.then(y -> y.want(3, 9)), 0).make();
        for (int what = 2; what <= 6; what++) Edge.is("all are as good: side 0, not none", 0, x.fixed(what));
        x.chance(4, 3, 1);
        int[] last = {0, 0, 0, 0, 3};
        for (int d = 0; d < 5; d++) Edge.is("day 4 alone, day " + d, last[d], x.fixed(2 + d));
        x.chance(4, 3, 0);
        x.chance(0, 3, 1);
        int[] day0 = {3, 0, 0, 0, 0};
        for (int d = 0; d < 5; d++) Edge.is("day 0 alone, day " + d, day0[d], x.fixed(2 + d));
        MenOnCradles sure = chanced(Start.NEW.then(y -> y.want(0, 9), y -> y.want(1, 9)), 10).make();
        int[] late = {0, 0, 0, 0, 1};
        for (int d = 0; d < 5; d++) Edge.is("side 1 as late as can be, day " + d, late[d], sure.fixed(2 + d));
    }

    /** Each row in which no side comes more than twice can be the best one, and the only one. */
    private static void eachRow() {
        Edge.term(30, "the row of SIDES, the first in order");
        Start two = Start.NEW.then(x -> x.cap(1)).times(8, (x, i) -> x.want(i % 4, 10 + i));
        for (int row = 0; row < 1024; row++) {
            int[] times = new int[4];
            boolean fit = true;
            for (int d = 0; d < 5; d++) fit &= ++times[row >> 2 * d & 3] <= 2;
            if (!fit) continue;
            int r = row;
            MenOnCradles x = two.times(20, (y, i) -> y.chance(i / 4, i % 4, (r >> i / 4 * 2 & 3) == i % 4 ? 10 : 0)).make();
            for (int d = 0; d < 5; d++) Edge.is("row " + row + ", day " + d, row >> 2 * d & 3, x.fixed(2 + d));
        }
    }

    /** What was found ahead is found anew when something is told. */
    private static void toldSince() {
        Edge.promise(30, "FIXED from day 0 with all, what 0: above,");
        MenOnCradles x = chanced(Start.NEW.then(y -> y.want(1, 10)), 10).make();
        askAll("one", x, 10, 10);
        x.want(1, 9);
        askAll("two", x, 19, 19);
        x.cap(1);
        askAll("one a day", x, 19, 19);
        for (int i = 0; i < 20; i++) x.came(i / 4, i % 4, i >= 16);
        askAll("the last day alone came", x, 19, 10);
        x.cap(2);
        askAll("two a day", x, 19, 19);
        x.came(4, 1, false);
        askAll("nothing came", x, 19, 0);
        x.came(3, 1, true);
        for (int i = 0; i < 16; i++) x.chance(i / 4, i % 4, 0);
        Edge.is("the last day alone has a chance", 19, x.plan(0, 3, 0));
        Edge.is("its row", 1, x.fixed(6));
        Edge.is("at most", 19, x.hindsight(2));
        Edge.is("by plan", 0, x.hindsight(0));
        for (int s = 0; s < 4; s++) x.chance(4, s, 0);
        Edge.is("no chance at all", 0, x.plan(0, 3, 0));
        Edge.is("nor by fixed", 0, x.fixed(0));
    }

    private static void askAll(String what, MenOnCradles x, int planned, int came) {
        int all = (1 << x.count(4)) - 1;
        Edge.is(what + ", plan", planned, x.plan(0, all, 0));
        Edge.is(what + ", fixed", planned, x.fixed(0));
        Edge.is(what + ", hindsight", came, x.hindsight(2));
    }

    private static void fixedOthers() {
        Edge.promise(30, "NoSuchElementException: others.");
        for (Start s : new Start[] {Start.NEW, Start.BUSY}) for (int what : Edge.beyond(0, 6)) Edge.refusedNoSuch("what " + what, s, x -> x.fixed(what));
        Edge.refused("a row that is found", Start.BUSY, x -> x.fixed(1) == 0);
    }

    // -- 54 and 55

    private static void came() {
        Edge.term(54, "HINDSIGHT: on the plan's days 0 to 4 it CAME that a SIDE could be worked or not (it could at first).");
        Edge.promise(54, "It CAME that a SIDE could be worked or not: true; false: others.");
        for (int side : Edge.ends(0, 3)) for (int day : Edge.ends(0, 4)) {
            MenOnCradles x = Start.NEW.then(y -> y.want(side, 9)).make();
            Edge.is("it could at first", 9, x.hindsight(2));
            for (int d = 0; d < 5; d++) Edge.yes("it could not", x.came(d, side, false));
            Edge.is("on no day", 0, x.hindsight(2));
            Edge.yes("on day " + day, x.came(day, side, true));
            Edge.is("on one", 9, x.hindsight(2));
            Edge.yes("told again", x.came(day, side, false));
            Edge.is("on none again", 0, x.hindsight(2));
        }
    }

    private static void cameOthers() {
        Edge.promise(54, "true; false: others.");
        for (boolean yes : new boolean[] {true, false}) {
            for (int d : Edge.beyond(0, 4)) Edge.refused("day " + d, Start.BUSY, x -> x.came(d, 0, yes));
            for (int s : Edge.beyond(0, 3)) Edge.refused("side " + s, Start.BUSY, x -> x.came(0, s, yes));
        }
    }

    private static void hindsight() {
        Edge.term(55, "What is done then is worth, of all WANTED: by PLAN (each day its FIRST), by the row of FIXED, and at most, with all known.");
        Edge.promise(55, "HINDSIGHT, what 0: by PLAN, 1: by FIXED, 2: at most.");
        MenOnCradles none = new MenOnCradles();
        for (int what = 0; what < 3; what++) Edge.is("nothing is wanted", 0, none.hindsight(what));
        Start two = Start.NEW.then(y -> y.want(1, 8), y -> y.want(2, 5), y -> y.cap(1));
        MenOnCradles x = two.make();
        for (int what = 0; what < 3; what++) Edge.is("all could be worked", 13, x.hindsight(what));
        MenOnCradles never = two.times(20, (y, i) -> y.came(i / 4, i % 4, false)).make();
        for (int what = 0; what < 3; what++) Edge.is("nothing could", 0, never.hindsight(what));
        MenOnCradles day0 = two.times(16, (y, i) -> y.came(1 + i / 4, i % 4, false)).make();
        for (int what = 0; what < 3; what++) Edge.is("day 0 alone: one side", 8, day0.hindsight(what));
        MenOnCradles day4 = two.times(16, (y, i) -> y.came(i / 4, i % 4, false)).make();
        int[] due = {8, 5, 8};
        for (int what = 0; what < 3; what++) Edge.is("day 4 alone, what " + what, due[what], day4.hindsight(what));
        // Nothing by chance, all in truth: the plan chooses none, the row side 0 each day.
        MenOnCradles luck = chanced(two.then(y -> y.want(0, 3)), 0).make();
        int[] lucky = {0, 3, 16};
        for (int what = 0; what < 3; what++) Edge.is("no chance, but it came, what " + what, lucky[what], luck.hindsight(what));
        MenOnCradles cap = Start.NEW.times(8, (y, i) -> y.want(0, 10)).then(y -> y.cap(1)).make();
        for (int what = 0; what < 3; what++) Edge.is("five of eight", 50, cap.hindsight(what));
    }

    private static void hindsightOthers() {
        Edge.promise(55, "NONE for another what.");
        for (Start s : new Start[] {Start.NEW, Start.BUSY}) for (int what : Edge.beyond(0, 2)) Edge.refusedNone("what " + what, s, x -> x.hindsight(what));
    }
}
