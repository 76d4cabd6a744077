/** Promises 20 to 25: late panes and why, stops that reach all, scratches, the bill and the rope. */
public final class PaneTest {
    private static void promise20() {
        MenOnCradles x = Due.ready();
        Due.due("20: all", x.late(0, 0, 0, 1), 20);
        x.drop(0, 0, 0, 2, 8, 0, 1);
        Due.due("20: ahead of it", x.late(0, 0, 1, 99), 20);
        Due.due("20: on the day", x.late(0, 0, 2, 1), 12);
        Due.due("20: a day behind, promise 1", x.late(0, 0, 3, 1), 20);
        Due.due("20: a day behind, promise 2", x.late(0, 0, 3, 2), 12);
        Due.due("20: far behind, promise 98", x.late(0, 0, 99, 97), 20);
        Due.due("20: far behind, promise 99", x.late(0, 0, 99, 98), 12);
        x.drop(0, 0, 1, 5, 8, 0, 1);
        Due.due("20: an earlier day still knows the first", x.late(0, 0, 3, 2), 12);
        Due.due("20: by both", x.late(0, 0, 5, 4), 8);
        Due.due("20: by the second", x.late(0, 0, 5, 3), 12);
        x.block(0, 0, 0, 4, true);
        Due.due("20: blocked is not late", x.late(0, 0, 5, 3), 11);
        x.block(0, 0, 0, 1, true);
        Due.due("20: nor one that is washed", x.late(0, 0, 5, 3), 11);
        x.nest(0, 0, 3, 4, 0, 99);
        Due.due("20: a nest's pane is late", x.late(0, 0, 5, 3), 11);
        Due.due("20: another side", x.late(0, 1, 5, 3), 20);
        Due.none("20: promise 0", x.late(0, 0, 5, 0));
        Due.none("20: promise 100", x.late(0, 0, 5, 100));
        Due.none("20: day 100", x.late(0, 0, 100, 1));
        Due.none("20: day -1", x.late(0, 0, -1, 1));
        Due.none("20: no side", x.late(0, 4, 5, 1));
        Due.none("20: no tower", x.late(2, 0, 5, 1));
    }

    private static void promise21() {
        MenOnCradles x = Due.ready();
        x.drop(0, 0, 0, 2, 8, 0, 1);
        Due.due("21: not late", x.reason(0, 0, 0, 0, 3, 2), 0);
        Due.due("21: late, and it could be", x.reason(0, 0, 0, 0, 3, 1), 5);
        Due.due("21: no leave on the days", x.reason(0, 0, 0, 3, 9, 4), 4);
        Due.due("21: leave on the first of them", x.reason(0, 0, 0, 3, 9, 5), 5);
        x.block(0, 0, 2, 3, true);
        Due.due("21: blocked", x.reason(0, 0, 2, 3, 3, 1), 1);
        x.block(0, 0, 2, 0, true);
        Due.due("21: blocked since it was washed", x.reason(0, 0, 2, 0, 2, 1), 1);
        x.rail(0, 0, 3, false);
        Due.due("21: the stop beside reaches it", x.reason(0, 0, 0, 3, 3, 1), 5);
        x.rail(0, 0, 2, false);
        Due.due("21: no open stop does", x.reason(0, 0, 0, 3, 3, 1), 2);
        Due.due("21: its neighbour has one", x.reason(0, 0, 0, 4, 3, 1), 5);
        x.cradle(0, 3, 1000);
        Due.due("21: a wider cradle does", x.reason(0, 0, 0, 3, 3, 1), 5);
        x.nest(0, 0, 0, 3, 0, 4);
        x.nest(0, 0, 0, 3, 6, 6);
        Due.due("21: nested on each", x.reason(0, 0, 0, 3, 4, 5), 3);
        Due.due("21: nested since day 0", x.reason(0, 0, 0, 3, 4, 50), 3);
        Due.due("21: day 5 is without, with leave", x.reason(0, 0, 0, 3, 6, 3), 5);
        Due.due("21: day 7 is without, no leave", x.reason(0, 0, 0, 3, 7, 2), 4);
        Due.due("21: another pane of it", x.reason(0, 0, 1, 3, 4, 5), 5);
        Due.none("21: promise 0", x.reason(0, 0, 0, 3, 4, 0));
        Due.none("21: promise 100", x.reason(0, 0, 0, 3, 4, 100));
        Due.none("21: day 100", x.reason(0, 0, 0, 3, 100, 1));
        Due.none("21: no pane", x.reason(0, 0, 4, 3, 4, 1));
        Due.none("21: no tower", x.reason(2, 0, 0, 0, 4, 1));
    }

    private static void workable21() {
        MenOnCradles x = Due.ready();
        Texts.rule(x, "stop when hour < 12; quiet when 11 < hour and hour < 17; quiet when 16 < wind;");
        Due.due("21: the last hour is free", x.reason(0, 0, 0, 0, 1, 1), 5);
        x.wind(0, 1, 17, 20);
        Due.due("21: stopped or quiet in all", x.reason(0, 0, 0, 0, 1, 1), 4);
        Due.due("21: not on the next day", x.reason(0, 0, 0, 0, 2, 1), 5);
        Due.due("21: nor on these two", x.reason(0, 0, 0, 0, 2, 2), 5);
        Texts.rule(x, "stop when panes = 0 and age = 0 and hours = 1 and worn = 0;");
        Due.due("21: as of LOST", x.reason(0, 0, 0, 0, 2, 2), 4);
        Texts.rule(x, "quiet when panes = 0 and age = 0 and hours = 1 and worn = 0;");
        Due.due("21: quiet as of LOST", x.reason(0, 0, 0, 0, 2, 2), 4);
        x.leave(0, 50, 0, 0);
        x.leave(0, 60, 23, 23);
        Texts.rule(x, "stop when side = 1; quiet when tower = 1;");
        Due.due("21: hour 0 alone", x.reason(0, 0, 0, 0, 50, 1), 5);
        Due.due("21: hour 23 alone", x.reason(0, 0, 0, 0, 60, 1), 5);
        Due.due("21: no leave between", x.reason(0, 0, 0, 0, 55, 1), 4);
        Due.due("21: stopped on that side", x.reason(0, 1, 0, 0, 1, 1), 4);
        Due.due("21: quiet on that tower", x.reason(1, 0, 0, 0, 1, 1), 4);
    }

    private static void promise22() {
        MenOnCradles x = Due.ready();
        x.tower(2, 3, 10);
        Due.due("22: 10 columns by 2", x.cover(2, 0, 0), 5);
        Due.due("22: the least as bits", x.cover(2, 0, 1), 1 + 4 + 16 + 64 + 256);
        x.cradle(2, 4, 9);
        Due.due("22: by 4", x.cover(2, 0, 0), 3);
        Due.due("22: the least as bits by 4", x.cover(2, 0, 1), 1 + 4 + 64);
        x.rail(2, 0, 6, false);
        Due.due("22: a shut one, the rest of as many", x.cover(2, 0, 1), 1 + 8 + 128);
        x.rail(2, 0, 0, false);
        Due.none("22: column 0 can't be reached", x.cover(2, 0, 0));
        Due.none("22: nor as bits", x.cover(2, 0, 1));
        for (int f = 0; f < 3; f++) x.block(2, 0, f, 0, true);
        Due.due("22: it need not", x.cover(2, 0, 0), 3);
        Due.due("22: from 1 on", x.cover(2, 0, 1), 2 + 8 + 128);
        x.block(2, 0, 1, 0, false);
        Due.none("22: one pane of it must", x.cover(2, 0, 0));
        for (int c = 0; c < 10; c++) for (int f = 0; f < 3; f++) x.block(2, 0, f, c, true);
        Due.due("22: nothing to reach", x.cover(2, 0, 0), 0);
        Due.due("22: nothing as bits", x.cover(2, 0, 1), 0);
        Due.due("22: the other side is as it was", x.cover(2, 1, 0), 3);
        x.cradle(2, 1, 9);
        Due.due("22: by 1", x.cover(2, 1, 0), 10);
        Due.due("22: all stops", x.cover(2, 1, 1), 1023);
        x.nest(2, 1, 0, 0, 0, 99);
        Due.due("22: nests don't count", x.cover(2, 1, 0), 10);
        Due.none("22: what 2", x.cover(2, 1, 2));
        Due.none("22: what -1", x.cover(2, 1, -1));
        Due.none("22: no side", x.cover(2, 4, 0));
        Due.none("22: no tower", x.cover(3, 0, 0));
    }

    private static void promise23() {
        MenOnCradles x = Due.ready();
        x.nest(0, 0, 3, 1, 2, 2);
        x.drop(0, 0, 0, 1, 8, 0, 1);
        x.drop(0, 0, 1, 2, 8, 2, 0);
        x.drop(0, 0, 1, 4, 8, 0, 3);
        Due.due("23: suspects", x.scratch(0, 0, 0, 1, 0, 4, 0), 15);
        Due.due("23: drops", x.scratch(0, 0, 0, 1, 0, 4, 1), 3);
        Due.due("23: the last", x.scratch(0, 0, 0, 1, 0, 4, 2), 2);
        Due.due("23: behind the first day", x.scratch(0, 0, 0, 1, 1, 4, 0), 13);
        Due.due("23: up to the second", x.scratch(0, 0, 0, 1, 0, 2, 0), 7);
        Due.due("23: not behind it", x.scratch(0, 0, 0, 1, 0, 3, 2), 1);
        Due.due("23: the nested pane was not reached", x.scratch(0, 0, 3, 1, 1, 3, 1), 0);
        Due.due("23: no suspects", x.scratch(0, 0, 3, 1, 1, 3, 0), 0);
        Due.none("23: no last one", x.scratch(0, 0, 3, 1, 1, 3, 2));
        Due.due("23: another side", x.scratch(0, 1, 0, 1, 0, 4, 1), 0);
        Due.due("23: another column", x.scratch(0, 0, 0, 0, 0, 4, 1), 1);
        Due.none("23: a not ahead of b", x.scratch(0, 0, 0, 1, 4, 4, 1));
        Due.none("23: a behind b", x.scratch(0, 0, 0, 1, 4, 1, 1));
        Due.none("23: day -1", x.scratch(0, 0, 0, 1, -1, 4, 1));
        Due.none("23: day 100", x.scratch(0, 0, 0, 1, 0, 100, 1));
        Due.none("23: what 3", x.scratch(0, 0, 0, 1, 0, 4, 3));
        Due.none("23: what -1", x.scratch(0, 0, 0, 1, 0, 4, -1));
        Due.none("23: no pane", x.scratch(0, 0, 0, 5, 0, 4, 1));
    }

    private static void promise24() {
        MenOnCradles x = Due.ready();
        Texts.rule(x, "price 9999 * 9999 * 20 + day; water 7 * hours;");
        x.drop(0, 0, 0, 1, 8, 0, 1);
        x.drop(1, 0, 0, 1, 9, 0, 1);
        x.drop(1, 0, 0, 2, 9, 0, 1);
        x.drop(0, 0, 0, 4, 9, 0, 1);
        long great = 9999 * 9999 * 20;
        Due.due("24: prices of all", x.bill(-1, 0, 99, 0), 4 * great + 8);
        Due.due("24: water", x.bill(-1, 0, 99, 1), 7 * 8);
        Due.due("24: hours", x.bill(-1, 0, 99, 2), 8);
        Due.due("24: panes, each time", x.bill(-1, 0, 99, 3), 8 + 20 + 20 + 8);
        Due.due("24: drops", x.bill(-1, 0, 99, 4), 4);
        Due.due("24: of tower 1", x.bill(1, 0, 99, 0), 2 * great + 3);
        Due.due("24: of one day", x.bill(-1, 1, 1, 4), 2);
        Due.due("24: both days too", x.bill(0, 1, 4, 4), 2);
        Due.due("24: between", x.bill(0, 2, 3, 4), 0);
        Due.none("24: from above to", x.bill(0, 3, 2, 4));
        Due.none("24: day 100", x.bill(0, 3, 100, 4));
        Due.none("24: day -1", x.bill(0, -1, 3, 4));
        Due.none("24: what 5", x.bill(0, 1, 2, 5));
        Due.none("24: what -1", x.bill(0, 1, 2, -1));
        Due.none("24: tower not told", x.bill(2, 1, 2, 4));
        Due.none("24: tower -2", x.bill(-2, 1, 2, 4));
    }

    private static void promise25() {
        MenOnCradles x = Due.ready();
        x.cradle(0, 2, 50);
        Due.due("25: not worn", x.stands(0, 10), 5);
        Due.due("25: cut", x.stands(0, 17), 2);
        Due.due("25: just one", x.stands(0, 50), 1);
        Due.due("25: none", x.stands(0, 51), 0);
        Texts.rule(x, "wear 11;");
        x.drop(0, 0, 0, 1, 8, 0, 1);
        Due.due("25: worn", x.stands(0, 10), 3);
        Due.due("25: the other tower's", x.stands(1, 10), 100);
        Due.due("25: the most", x.stands(0, 9999), 0);
        Due.none("25: wear 0", x.stands(0, 0));
        Due.none("25: wear -1", x.stands(0, -1));
        Due.none("25: wear 10000", x.stands(0, 10000));
        Due.none("25: no tower", x.stands(2, 1));
        x.mark(0, false);
        x.cradle(0, 2, 5);
        x.mark(0, true);
        Due.due("25: worn beyond its life by a mark", x.stands(0, 1), 0);
    }

    public static void main(String[] args) {
        promise20();
        promise21();
        workable21();
        promise22();
        promise23();
        promise24();
        promise25();
        Due.end("PaneTest");
    }
}
