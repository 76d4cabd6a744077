/** Promises 13 to 19: what a drop reaches, why it may not be, what is kept of it, and wind heard of late. */
public final class DropTest {
    private static void promise13() {
        MenOnCradles x = Due.ready();
        Due.due("13: two columns", x.reach(0, 0, 0, 0), 8);
        Due.due("13: the last column alone", x.reach(0, 3, 4, 99), 4);
        x.rail(0, 0, 0, false);
        Due.due("13: a shut stop's too", x.reach(0, 0, 0, 0), 8);
        Due.none("13: no tower", x.reach(2, 0, 0, 0));
        Due.none("13: tower 6", x.reach(6, 0, 0, 0));
        Due.none("13: no side", x.reach(0, 4, 0, 0));
        Due.none("13: no stop", x.reach(0, 0, 5, 0));
        Due.none("13: stop -1", x.reach(0, 0, -1, 0));
        Due.none("13: day 100", x.reach(0, 0, 0, 100));
        Due.none("13: day -1", x.reach(0, 0, 0, -1));
        for (int f = 0; f < 4; f++) x.block(0, 1, f, 0, true);
        x.nest(0, 1, 2, 1, 5, 6);
        Due.due("13: blocked and nested", x.reach(0, 1, 0, 5), 3);
        Due.due("13: blocked, the nest is over", x.reach(0, 1, 0, 7), 4);
        x.cradle(0, 1, 9);
        Due.due("13: none is left", x.reach(0, 1, 0, 7), 0);
    }

    private static void others14() {
        MenOnCradles x = Due.ready();
        Due.none("14: no tower", x.why(2, 0, 0, 1, 8, 0, 1));
        Due.none("14: tower -1", x.why(-1, 0, 0, 1, 8, 0, 1));
        Due.none("14: no side", x.why(0, 4, 0, 1, 8, 0, 1));
        Due.none("14: no stop", x.why(0, 0, 5, 1, 8, 0, 1));
        Due.none("14: day 100", x.why(0, 0, 0, 100, 8, 0, 1));
        Due.none("14: day -1", x.why(0, 0, 0, -1, 8, 0, 1));
        Due.none("14: hour 24", x.why(0, 0, 0, 1, 24, 0, 1));
        Due.none("14: hour -1", x.why(0, 0, 0, 1, -1, 0, 1));
        Due.none("14: person 10", x.why(0, 0, 0, 1, 8, 10, 1));
        Due.none("14: person -1", x.why(0, 0, 0, 1, 8, 0, -1));
        Due.due("14: nothing is made by it", x.count(1), 0);
    }

    /** Each reason is hidden by those ahead of it, and shows when they are mended one by one. */
    private static void order14() {
        MenOnCradles x = new MenOnCradles();
        x.tower(0, 6, 3);
        x.tower(1, 6, 3);
        for (int p = 4; p < 8; p++) x.drill(p, 5);
        x.elder(4, true);
        x.elder(6, true);
        x.leave(1, 5, 0, 23);
        x.leave(0, 5, 0, 4);
        x.drop(1, 0, 0, 5, 22, 4, 5);
        x.drop(0, 3, 0, 5, 2, 6, 7);
        x.rail(0, 0, 0, false);
        for (int f = 0; f < 6; f++) for (int c = 0; c < 2; c++) x.block(0, 0, f, c, true);
        x.film(0, 0, 5, 5, 21, 22);
        Texts.rule(x, "keys; wear 1001; stop when hour = 22; quiet when 21 < hour; drill 2;");
        Due.due("14: shut", x.why(0, 0, 0, 5, 23, 1, 1), 1);
        x.rail(0, 0, 0, true);
        Due.due("14: reaches none", x.why(0, 0, 0, 5, 23, 1, 1), 2);
        x.block(0, 0, 0, 1, false);
        Due.due("14: both the same", x.why(0, 0, 0, 5, 23, 4, 4), 3);
        Due.due("14: no elder", x.why(0, 0, 0, 5, 23, 5, 7), 3);
        Due.due("14: beyond 23", x.why(0, 0, 0, 5, 23, 4, 7), 4);
        Due.due("14: the first is aloft", x.why(0, 0, 0, 5, 22, 4, 8), 5);
        Due.due("14: the second is aloft", x.why(0, 0, 0, 5, 21, 6, 5), 5);
        Due.due("14: he is ahead of the cradle", x.why(0, 0, 0, 5, 1, 6, 8), 5);
        Due.due("14: the cradle is", x.why(0, 0, 0, 5, 1, 4, 8), 6);
        Due.due("14: not drilled", x.why(0, 0, 0, 5, 21, 6, 8), 7);
        x.drill(8, 3);
        Due.due("14: no leave", x.why(0, 0, 0, 5, 21, 6, 8), 8);
        x.leave(0, 5, 21, 21);
        Due.due("14: no leave in one", x.why(0, 0, 0, 5, 21, 6, 8), 8);
        x.leave(0, 5, 22, 22);
        Due.due("14: stopped", x.why(0, 0, 0, 5, 21, 6, 8), 9);
        Texts.rule(x, "keys; wear 1001; quiet when 21 < hour; drill 2;");
        Due.due("14: quiet", x.why(0, 0, 0, 5, 21, 6, 8), 10);
        Texts.rule(x, "keys; wear 1001; drill 2;");
        Due.due("14: the rope", x.why(0, 0, 0, 5, 21, 6, 8), 11);
        Texts.rule(x, "keys; wear 1000; drill 2;");
        Due.due("14: no key", x.why(0, 0, 0, 5, 21, 6, 8), 12);
        x.key(0, 9, 5, 0, true);
        Due.due("14: another's key", x.why(0, 0, 0, 5, 21, 6, 8), 12);
        x.key(0, 9, 5, 1, false);
        x.key(0, 8, 5, 22, true);
        Due.due("14: not in the first hour", x.why(0, 0, 0, 5, 21, 6, 8), 12);
        x.key(0, 8, 5, 22, false);
        Texts.rule(x, "wear 1000; drill 2;");
        Due.due("14: a film", x.why(0, 0, 0, 5, 21, 6, 8), 13);
        Due.due("14: no film on that side", x.why(0, 1, 0, 5, 21, 6, 8), 0);
    }

    private static void keys14() {
        MenOnCradles x = Due.ready();
        Texts.rule(x, "keys; rate 2;");
        x.key(0, 1, 1, 9, true);
        Due.due("14: one hour too early", x.why(0, 0, 0, 1, 8, 0, 1), 12);
        Due.due("14: from his hour on", x.why(0, 0, 0, 1, 9, 0, 1), 0);
        x.key(0, 1, 1, 12, false);
        x.key(0, 0, 1, 12, true);
        Due.due("14: from hand to hand", x.why(0, 0, 0, 1, 11, 0, 1), 0);
        Due.due("14: not to others", x.why(0, 0, 0, 1, 11, 0, 2), 12);
        Due.due("14: the tower's own key", x.why(1, 0, 0, 1, 12, 0, 1), 12);
        x.key(0, 0, 1, 14, false);
        Due.due("14: given back", x.why(0, 0, 0, 1, 13, 0, 1), 12);
        Due.due("14: given back behind it", x.why(0, 0, 0, 1, 12, 0, 1), 0);
    }

    private static void hours14() {
        MenOnCradles x = Due.ready();
        Due.due("14: 10 floors by 4 are 3 hours", x.why(1, 0, 0, 1, 21, 0, 1), 0);
        Due.due("14: they don't end by 23", x.why(1, 0, 0, 1, 22, 0, 1), 4);
        x.drop(1, 0, 0, 1, 10, 0, 1);
        Due.due("14: he is in its last hour", x.why(0, 0, 0, 1, 12, 2, 0), 5);
        Due.due("14: and free behind it", x.why(0, 0, 0, 1, 13, 2, 0), 0);
        Due.due("14: and ahead of it", x.why(0, 0, 0, 1, 9, 2, 0), 0);
        Due.due("14: on the next day", x.why(0, 0, 0, 2, 12, 2, 0), 0);
        x.elder(2, true);
        Due.due("14: the cradle in its first", x.why(1, 2, 0, 1, 8, 2, 3), 6);
        Due.due("14: the cradle ahead of it", x.why(1, 2, 0, 1, 7, 2, 3), 0);
        Due.due("14: another tower's", x.why(0, 2, 0, 1, 11, 2, 3), 0);
        Texts.rule(x, "stop when hour = 10 and wind = 5; quiet when wind = 6; ");
        x.wind(0, 2, 10, 5);
        Due.due("14: stopped in its last hour", x.why(1, 0, 0, 2, 8, 0, 1), 9);
        Due.due("14: stopped in its first hour", x.why(1, 0, 0, 2, 10, 0, 1), 9);
        Due.due("14: not behind it", x.why(1, 0, 0, 2, 11, 0, 1), 0);
        Due.due("14: not on that side", x.why(1, 1, 0, 2, 10, 0, 1), 0);
        x.wind(1, 2, 10, 6);
        Due.due("14: quiet in its last hour", x.why(1, 1, 0, 2, 8, 0, 1), 10);
        Texts.rule(x, "stop when 0; stop when 0; stop when 0; stop when 0; stop when 0; stop when 2;");
        Due.due("14: the sixth stop", x.why(1, 1, 0, 2, 8, 0, 1), 9);
        Texts.rule(x, "quiet when 0; quiet when 0; quiet when 0; quiet when 0; quiet when 0; quiet when 2;");
        Due.due("14: the sixth quiet", x.why(1, 1, 0, 2, 8, 0, 1), 10);
    }

    private static void drilled14() {
        MenOnCradles x = Due.ready();
        x.leave(0, 30, 8, 17);
        x.leave(0, 31, 8, 17);
        Due.due("14: drill 30 without", x.why(0, 0, 0, 30, 8, 0, 1), 0);
        Due.due("14: not more", x.why(0, 0, 0, 31, 8, 0, 1), 7);
        Texts.rule(x, "drill 31;");
        Due.due("14: told more", x.why(0, 0, 0, 31, 8, 0, 1), 0);
    }

    private static void rope14() {
        MenOnCradles x = Due.ready();
        Texts.rule(x, "wear 400;");
        Due.due("14: 0 and 400", x.drop(0, 0, 0, 1, 8, 0, 1), 0);
        Due.due("14: 400 and 400", x.drop(0, 0, 2, 1, 9, 0, 1), 1);
        Due.due("14: 800 and 400", x.why(0, 0, 4, 1, 10, 0, 1), 11);
        Texts.rule(x, "wear 200;");
        Due.due("14: up to its life", x.why(0, 0, 4, 1, 10, 0, 1), 0);
        Texts.rule(x, "wear 0 - 5;");
        Due.due("14: below 0 is 0", x.drop(0, 0, 4, 1, 10, 0, 1), 2);
        Due.due("14: kept as 0", x.made(2, 7), 0);
        Due.due("14: nothing worn by it", x.stands(0, 1), 200);
        Texts.rule(x, "wear 9999 * 9999 * 21;");
        Due.due("14: a great one", x.why(0, 0, 4, 1, 11, 0, 1), 11);
    }

    private static void days14() {
        MenOnCradles x = Due.ready();
        x.drop(0, 0, 0, 3, 8, 0, 1);
        Due.none("14: ahead of the last one's day", x.why(0, 0, 0, 2, 8, 0, 1));
        Due.none("15: nor made", x.drop(0, 0, 0, 2, 8, 0, 1));
        Due.due("14: on its day, in an earlier hour", x.why(0, 0, 0, 3, 7, 0, 1), 8);
        x.leave(0, 3, 0, 23);
        Due.due("15: that is made", x.drop(0, 0, 0, 3, 7, 0, 1), 1);
    }

    private static void promise15() {
        MenOnCradles x = Due.ready();
        Due.none("15: WHY is not 0", x.drop(0, 0, 0, 1, 7, 0, 1));
        Due.none("15: no such stop", x.drop(0, 0, 5, 1, 8, 0, 1));
        Due.due("15: none is made", x.count(1), 0);
        Due.due("15: the first", x.drop(0, 0, 0, 1, 8, 0, 1), 0);
        Due.due("15: the second", x.drop(0, 0, 0, 1, 9, 1, 0), 1);
        Due.due("15: two", x.count(1), 2);
        int n = 2;
        for (int d = 2; d <= 5; d++) for (int h = 8; h <= 17; h++) Due.due("15: drop " + n, x.drop(0, 1, 2, d, h, 0, 1), n++);
        x.leave(0, 6, 0, 23);
        for (int h = 0; n < 60; h++) Due.due("15: drop " + n, x.drop(0, 1, 2, 6, h, 0, 1), n++);
        Due.due("15: 60 are there", x.count(1), 60);
        Due.none("15: a 61st", x.drop(0, 0, 0, 6, 23, 0, 1));
        Due.none("14: nor WHY", x.why(0, 0, 0, 6, 23, 0, 1));
    }

    private static void promise16() {
        MenOnCradles x = Due.ready();
        Texts.rule(x, "rate 3; wear 10 + panes; price worn * 2 + hour; water wind + age; stop when 50 < wind and worn = 0 and age = 99;");
        x.wind(2, 1, 9, 41);
        x.wind(2, 1, 10, 44);
        x.block(1, 2, 9, 1, true);
        x.drop(1, 2, 1, 1, 9, 0, 1);
        int[] due = {1, 2, 1, 1, 9, 4, 19, 29, 9, 140, 0, 6};
        for (int what = 0; what < 12; what++) Due.due("16: made(0, " + what + ")", x.made(0, what), due[what]);
        x.drop(1, 2, 1, 2, 9, 0, 1);
        Due.due("16: worn ahead of it", x.made(1, 8), 67);
        Due.due("16: age ahead of it", x.made(1, 9), 1);
        x.wind(2, 1, 10, 60);
        x.wind(2, 2, 10, 60);
        Due.due("16: against, by what it was then", x.made(0, 10), 1);
        Due.due("16: not against, by what it was then", x.made(1, 10), 0);
        x.wind(2, 1, 10, 44);
        Due.due("16: not against any more", x.made(0, 10), 0);
        x.wind(2, 1, 12, 60);
        Due.due("16: in its last hour", x.made(0, 10), 1);
        Texts.rule(x, "rate 12;");
        Due.due("16: no stop, not against", x.made(0, 10), 0);
        Due.due("16: hours are kept", x.made(0, 5), 4);
        Due.due("16: the rate is kept", x.made(0, 11), 6);
        Texts.rule(x, "stop when hours = 4 and panes = 19 and hour = 12;");
        Due.due("16: hours and panes are as they were", x.made(0, 10), 1);
        x.block(1, 2, 8, 1, true);
        Due.due("16: panes are kept", x.made(0, 6), 19);
        Due.due("16: and known to the rule", x.made(0, 10), 1);
        Due.noSuch("16: no drop", () -> x.made(2, 0));
        Due.noSuch("16: drop -1", () -> x.made(-1, 0));
        Due.noSuch("16: what 12", () -> x.made(0, 12));
        Due.noSuch("16: what -1", () -> x.made(0, -1));
    }

    private static int rescue(int floors, int rate) {
        MenOnCradles x = new MenOnCradles();
        x.tower(0, floors, 1);
        x.elder(0, true);
        x.drill(0, 0);
        x.drill(1, 0);
        x.leave(0, 0, 0, 23);
        Texts.rule(x, "rate " + (char) ('0' + rate / 10) + (char) ('0' + rate % 10) + ";");
        x.drop(0, 0, 0, 0, 0, 0, 1);
        return x.made(0, 11);
    }

    private static void rescues16() {
        Due.due("16: 12 floors at once", rescue(12, 12), 12);
        Due.due("16: 12 by 6", rescue(12, 6), 6);
        Due.due("16: 12 by 5", rescue(12, 5), 7);
        Due.due("16: 12 by 1", rescue(12, 1), 6);
        Due.due("16: 11 by 1", rescue(11, 1), 6);
        Due.due("16: 1 by 12", rescue(1, 12), 1);
        Due.due("16: 10 by 4", rescue(10, 4), 6);
    }

    private static void promise17() {
        MenOnCradles x = Due.ready();
        Due.none("17: never", x.washed(0, 0, 0, 0));
        x.nest(0, 0, 1, 1, 1, 1);
        x.block(0, 0, 2, 1, true);
        x.drop(0, 0, 0, 1, 8, 0, 1);
        Due.due("17: washed", x.washed(0, 0, 3, 0), 1);
        Due.none("17: nested", x.washed(0, 0, 1, 1));
        Due.none("17: blocked", x.washed(0, 0, 2, 1));
        Due.none("17: beside", x.washed(0, 0, 0, 2));
        Due.none("17: another side", x.washed(0, 1, 0, 0));
        Due.none("17: another tower", x.washed(1, 0, 0, 0));
        x.drop(0, 0, 1, 2, 8, 0, 1);
        Due.due("17: once", x.washed(0, 0, 0, 0), 1);
        Due.due("17: the last day", x.washed(0, 0, 0, 1), 2);
        Due.due("17: the nest is over", x.washed(0, 0, 1, 1), 2);
        x.block(0, 0, 0, 0, true);
        Due.due("17: blocked since", x.washed(0, 0, 0, 0), 1);
        Due.none("17: no pane", x.washed(0, 0, 4, 0));
        Due.none("17: no column", x.washed(0, 0, 0, 5));
        Due.none("17: no tower", x.washed(5, 0, 0, 0));
        Due.none("17: no side", x.washed(0, -1, 0, 0));
    }

    private static void promise18() {
        MenOnCradles x = Due.ready();
        x.drop(0, 0, 0, 1, 8, 0, 1);
        x.drop(0, 1, 0, 1, 9, 0, 1);
        x.drop(1, 1, 0, 1, 10, 0, 1);
        Due.due("18: none", x.against(-1), 0);
        Texts.rule(x, "stop when 30 < wind;");
        Due.due("18: still none", x.against(-1), 0);
        x.wind(0, 1, 8, 31);
        x.wind(1, 1, 9, 31);
        x.wind(1, 1, 12, 31);
        Due.due("18: all", x.against(-1), 3);
        Due.due("18: side 0", x.against(0), 1);
        Due.due("18: side 1", x.against(1), 2);
        Due.due("18: side 2", x.against(2), 0);
        Due.none("18: side 4", x.against(4));
        Due.none("18: side -2", x.against(-2));
        Due.due("18: they stay made", x.count(1), 3);
    }

    private static void ages() {
        MenOnCradles x = Due.ready();
        Texts.rule(x, "price age;");
        x.drop(0, 0, 0, 1, 8, 0, 1);
        x.drop(0, 0, 2, 2, 8, 0, 1);
        x.drop(0, 0, 1, 5, 8, 0, 1);
        Due.due("16: never washed", x.made(0, 8), 99);
        Due.due("16: beside what is washed", x.made(1, 8), 99);
        Due.due("16: the most days", x.made(2, 8), 4);
        x.drop(0, 0, 0, 5, 9, 0, 1);
        Due.due("16: 0 and 4 days", x.made(3, 8), 4);
        x.drop(0, 0, 1, 5, 10, 0, 1);
        Due.due("16: washed on this day", x.made(4, 8), 0);
        x.drop(0, 1, 1, 5, 11, 0, 1);
        Due.due("16: another side", x.made(5, 8), 99);
        x.drill(0, 99);
        x.drill(1, 99);
        x.leave(0, 99, 0, 23);
        x.drop(0, 0, 2, 99, 8, 0, 1);
        Due.due("16: 97 days", x.made(6, 8), 97);
        MenOnCradles y = Due.ready();
        Texts.rule(y, "price age;");
        y.cradle(0, 4, 10);
        y.drop(0, 0, 0, 1, 8, 0, 1);
        y.drop(0, 0, 1, 1, 9, 0, 1);
        Due.due("16: the fifth column never was", y.made(1, 8), 99);
        y.drop(0, 0, 3, 3, 9, 0, 1);
        Due.due("16: three columns on", y.made(2, 8), 2);
        y.drop(0, 0, 0, 4, 9, 0, 1);
        Due.due("16: three columns back", y.made(3, 8), 3);
        farAges();
        oneFloorAge();
    }

    /** Two drops of width 4 that share one column alone. */
    private static void farAges() {
        MenOnCradles x = Due.ready();
        Texts.rule(x, "price age;");
        x.cradle(0, 4, 10);
        for (int f = 0; f < 4; f++) for (int c = 0; c < 5; c++) x.block(0, 0, f, c, c != 3);
        x.drop(0, 0, 0, 1, 8, 0, 1);
        x.drop(0, 0, 3, 3, 8, 0, 1);
        Due.due("16: age by the column that both reach, on", x.made(1, 8), 2);
        x.drop(0, 0, 0, 4, 8, 0, 1);
        Due.due("16: age by the column that both reach, back", x.made(2, 8), 1);
        x.row(0, 0, 0, 4, 9, 0, 1);
        x.row(0, 0, 3, 4, 10, 0, 1);
        Due.due("53: that column once", x.tried(4), 4);
    }

    private static void oneFloorAge() {
        MenOnCradles x = Due.ready();
        x.tower(2, 1, 1);
        for (int d = 1; d < 5; d++) x.leave(2, d, 0, 23);
        Texts.rule(x, "price age;");
        x.drop(2, 0, 0, 1, 8, 0, 1);
        Due.due("16: one pane, never washed", x.made(0, 8), 99);
        x.drop(2, 0, 0, 4, 8, 0, 1);
        Due.due("16: one pane, washed", x.made(1, 8), 3);
    }

    /** A drop that is only asked about must not be seen by any other question. */
    private static void askedAlone() {
        MenOnCradles x = Due.ready();
        Texts.rule(x, "price 5; water 8;");
        x.wind(0, 1, 8, 50);
        x.film(0, 0, 1, 1, 9, 9);
        x.complain(0, 0, 0, 1, 8);
        Due.due("14: it may be", x.why(0, 0, 0, 1, 8, 0, 1), 0);
        Texts.rule(x, "stop when wind = 50;");
        Due.due("18: asked alone", x.against(-1), 0);
        Due.none("17: asked alone", x.washed(0, 0, 0, 0));
        Due.due("20: asked alone", x.late(0, 0, 1, 1), 20);
        Due.due("23: asked alone", x.scratch(0, 0, 0, 0, 0, 5, 1), 0);
        Due.due("24: asked alone", x.bill(-1, 0, 99, 4), 0);
        Due.due("41: asked alone", x.clashes(0), 0);
        Due.due("43: asked alone", x.ours(0, 0), 0);
        Due.due("44: asked alone, hours", x.band(5, 0), 0);
        Due.due("44: asked alone, ours", x.band(5, 1), 0);
        Due.none("45: asked alone", x.worst());
        Due.due("46: asked alone", x.week(0, 1, 0), 0);
        Due.due("47: asked alone", x.water(0, 0, 0, 0, 0, 99), 0);
        Due.due("48: asked alone", x.aloft(0, 0, 99), 0);
        Due.none("49: asked alone", x.learnt(1, 1));
        Due.none("50: asked alone", x.gap(0));
        Due.noSuch("16: asked alone", () -> x.made(0, 0));
        Texts.rule(x, "");
        Due.due("14: nor is anybody aloft by it", x.why(0, 0, 0, 1, 8, 0, 1), 0);
    }

    private static void promise19() {
        MenOnCradles x = Due.ready();
        Texts.rule(x, "stop when 20 < wind and worn = 0 and panes = 0 and age = 0 and hours = 1; stop when week = 2 and hour = 9; quiet when 1;");
        for (int h = 0; h < 24; h++) x.wind(2, 1, h, 21);
        x.wind(2, 1, 10, 20);
        Due.due("19: with leave from 8 to 17, but for one", x.lost(0, 2, 1), 9);
        Due.due("19: all day", x.lost(1, 2, 1), 23);
        Due.due("19: another side", x.lost(0, 1, 1), 0);
        Due.due("19: by the weekday", x.lost(0, 1, 2), 1);
        Due.due("19: no leave on that day", x.lost(0, 2, 9), 0);
        Texts.rule(x, "stop when 0 < worn; wear 5;");
        x.tower(2, 1, 1);
        Due.due("19: not worn", x.lost(0, 2, 1), 0);
        Texts.rule(x, "wear 5;");
        x.drop(0, 0, 0, 1, 8, 0, 1);
        Texts.rule(x, "stop when 0 < worn;");
        Due.due("19: worn as it is now", x.lost(0, 2, 1), 10);
        x.leave(0, 50, 0, 0);
        x.leave(0, 51, 23, 23);
        Texts.rule(x, "stop when hour = 0 and day = 50; stop when hour = 23 and day = 51;");
        Due.due("19: the first hour", x.lost(0, 2, 50), 1);
        Due.due("19: the last hour", x.lost(0, 2, 51), 1);
        x.leave(0, 50, 0, 3);
        Due.due("19: an hour with two leaves is one", x.lost(0, 2, 50), 1);
        Due.none("19: no tower", x.lost(3, 0, 1));
        Due.none("19: no side", x.lost(0, 4, 1));
        Due.none("19: day 100", x.lost(0, 0, 100));
        Due.none("19: day -1", x.lost(0, 0, -1));
    }

    public static void main(String[] args) {
        promise13();
        others14();
        order14();
        keys14();
        hours14();
        drilled14();
        rope14();
        days14();
        promise15();
        promise16();
        rescues16();
        promise17();
        promise18();
        ages();
        promise19();
        askedAlone();
        Due.end("DropTest");
    }
}
