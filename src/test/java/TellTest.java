/** Promises 1 to 10: what is told of towers, weather and people. */
public final class TellTest {
    private static void promise1() {
        MenOnCradles x = new MenOnCradles();
        for (int what = 0; what <= 12; what++) Due.due("1: count(" + what + ") of a new object", x.count(what), 0);
        for (int t = 0; t < 6; t++) Due.none("1: no tower " + t, x.reach(t, 0, 0, 0));
    }

    private static void promise2() {
        MenOnCradles x = new MenOnCradles();
        Due.yes("2: the least", x.tower(0, 1, 1));
        Due.yes("2: the most", x.tower(5, 12, 10));
        Due.no("2: told again", x.tower(0, 2, 2));
        Due.due("2: stays as it was", x.reach(0, 0, 0, 0), 1);
        Due.none("2: column beyond", x.reach(0, 0, 1, 0));
        Due.no("2: tower -1", x.tower(-1, 1, 1));
        Due.no("2: tower 6", x.tower(6, 1, 1));
        Due.no("2: floors 0", x.tower(1, 0, 1));
        Due.no("2: floors 13", x.tower(1, 13, 1));
        Due.no("2: columns 0", x.tower(1, 1, 0));
        Due.no("2: columns 11", x.tower(1, 1, 11));
        Due.no("2: far off", x.tower(Integer.MIN_VALUE, Integer.MAX_VALUE, 1));
        Due.due("2: two are told", x.count(0), 2);
        Due.due("2: all floors", x.reach(5, 3, 9, 0), 12);
    }

    private static void promise3() {
        MenOnCradles x = Due.ready();
        Due.yes("3: blocked", x.block(0, 3, 3, 4, true));
        Due.yes("3: blocked again", x.block(0, 3, 3, 4, true));
        Due.due("3: one", x.count(8), 1);
        Due.due("3: not reached", x.reach(0, 3, 4, 0), 3);
        Due.due("3: another side is", x.reach(0, 2, 4, 0), 4);
        Due.yes("3: not any more", x.block(0, 3, 3, 4, false));
        Due.due("3: reached", x.reach(0, 3, 4, 0), 4);
        Due.due("3: none", x.count(8), 0);
        Due.no("3: no tower", x.block(2, 0, 0, 0, true));
        Due.no("3: no side", x.block(0, 4, 0, 0, true));
        Due.no("3: side -1", x.block(0, -1, 0, 0, true));
        Due.no("3: no floor", x.block(0, 0, 4, 0, true));
        Due.no("3: floor -1", x.block(0, 0, -1, 0, true));
        Due.no("3: no column", x.block(0, 0, 0, 5, true));
        Due.no("3: column -1", x.block(0, 0, 0, -1, true));
        Due.yes("3: floor 9 of tower 1", x.block(1, 0, 9, 2, true));
        Due.due("3: of all towers", x.count(8), 1);
    }

    private static void promise4() {
        MenOnCradles x = Due.ready();
        Due.yes("4: one day", x.nest(0, 0, 1, 2, 4, 4));
        Due.due("4: ahead of it", x.reach(0, 0, 2, 3), 8);
        Due.due("4: on it", x.reach(0, 0, 2, 4), 7);
        Due.due("4: behind it", x.reach(0, 0, 2, 5), 8);
        Due.due("4: a stop beside", x.reach(0, 0, 1, 4), 7);
        Due.due("4: a stop that does not reach it", x.reach(0, 0, 3, 4), 8);
        Due.due("4: on another side", x.reach(0, 1, 2, 4), 8);
        Due.yes("4: all days", x.nest(0, 1, 0, 0, 0, 99));
        Due.due("4: first day", x.reach(0, 1, 0, 0), 7);
        Due.due("4: last day", x.reach(0, 1, 0, 99), 7);
        Due.no("4: from above to", x.nest(0, 0, 1, 2, 5, 4));
        Due.no("4: day -1", x.nest(0, 0, 1, 2, -1, 4));
        Due.no("4: day 100", x.nest(0, 0, 1, 2, 4, 100));
        Due.no("4: no pane", x.nest(0, 0, 4, 2, 4, 4));
        Due.no("4: no tower", x.nest(3, 0, 0, 0, 4, 4));
        for (int i = 2; i < 20; i++) Due.yes("4: nest " + i, x.nest(0, 2, 1, 2, 4, 4));
        Due.due("4: 20 are there", x.count(2), 20);
        Due.no("4: a 21st", x.nest(0, 2, 1, 2, 4, 4));
        Due.due("4: twenty on one pane hide one", x.reach(0, 2, 2, 4), 7);
    }

    private static void promise5() {
        MenOnCradles x = Due.ready();
        Due.yes("5: shut", x.rail(0, 2, 4, false));
        Due.due("5: WHY", x.why(0, 2, 4, 1, 8, 0, 1), 1);
        Due.due("5: another stop is open", x.why(0, 2, 3, 1, 8, 0, 1), 0);
        Due.due("5: another side's is open", x.why(0, 1, 4, 1, 8, 0, 1), 0);
        Due.yes("5: shut again", x.rail(0, 2, 4, false));
        Due.yes("5: open", x.rail(0, 2, 4, true));
        Due.due("5: may be", x.why(0, 2, 4, 1, 8, 0, 1), 0);
        Due.no("5: no stop", x.rail(0, 2, 5, true));
        Due.no("5: stop -1", x.rail(0, 2, -1, true));
        Due.no("5: no side", x.rail(0, 4, 0, true));
        Due.no("5: no tower", x.rail(2, 0, 0, true));
    }

    private static void promise6() {
        MenOnCradles x = Due.ready();
        Due.due("6: width 2 at first", x.reach(0, 0, 0, 0), 8);
        Due.due("6: life 1000 at first", x.stands(0, 1), 1000);
        for (int w = 1; w <= 4; w++) {
            Due.yes("6: width " + w, x.cradle(0, w, 9999));
            Due.due("6: reaches as wide", x.reach(0, 0, 0, 0), 4 * w);
            Due.due("6: what there is", x.reach(0, 0, 3, 0), 4 * Math.min(2, w));
        }
        Due.due("6: the other tower's stays", x.reach(1, 0, 0, 0), 20);
        Due.due("6: the longest life", x.stands(0, 1), 9999);
        Due.no("6: width 0", x.cradle(0, 0, 5));
        Due.no("6: width 5", x.cradle(0, 5, 5));
        Due.no("6: life 0", x.cradle(0, 1, 0));
        Due.no("6: life 10000", x.cradle(0, 1, 10000));
        Due.no("6: no tower", x.cradle(2, 1, 5));
        Due.due("6: stays as it was", x.stands(0, 1), 9999);
        Texts.rule(x, "wear 70;");
        x.drop(0, 0, 0, 1, 8, 0, 1);
        Due.due("6: worn", x.stands(0, 1), 9929);
        Due.yes("6: a new rope", x.cradle(0, 2, 100));
        Due.due("6: not worn", x.stands(0, 1), 100);
    }

    private static void promise7() {
        MenOnCradles x = Due.ready();
        Texts.rule(x, "price wind;");
        Due.yes("7: told", x.wind(2, 1, 9, 99));
        Due.yes("7: the first", x.wind(0, 0, 0, 1));
        Due.yes("7: the last", x.wind(3, 99, 23, 98));
        Due.yes("7: told again", x.wind(2, 1, 9, 7));
        x.wind(1, 1, 9, 64);
        x.wind(3, 1, 9, 99);
        x.drop(0, 2, 0, 1, 9, 0, 1);
        Due.due("7: on its side alone", x.made(0, 8), 7);
        x.drop(0, 3, 0, 1, 10, 0, 1);
        Due.due("7: in its hour alone", x.made(1, 8), 0);
        x.drop(0, 3, 0, 2, 9, 0, 1);
        Due.due("7: on its day alone", x.made(2, 8), 0);
        x.drop(1, 1, 0, 2, 9, 2, 0);
        Due.no("7: side 4", x.wind(4, 1, 9, 7));
        Due.no("7: side -1", x.wind(-1, 1, 9, 7));
        Due.no("7: day 100", x.wind(0, 100, 9, 7));
        Due.no("7: day -1", x.wind(0, -1, 9, 7));
        Due.no("7: hour 24", x.wind(0, 1, 24, 7));
        Due.no("7: hour -1", x.wind(0, 1, -1, 7));
        Due.no("7: 100", x.wind(0, 1, 9, 100));
        Due.no("7: -1", x.wind(0, 1, 9, -1));
    }

    private static void promise8() {
        MenOnCradles x = new MenOnCradles();
        x.tower(0, 4, 5);
        x.tower(1, 4, 5);
        x.elder(0, true);
        x.drill(0, 0);
        x.drill(1, 0);
        Due.yes("8: one hour", x.leave(0, 3, 9, 9));
        Due.due("8: ahead", x.why(0, 0, 0, 3, 8, 0, 1), 8);
        Due.due("8: in it", x.why(0, 0, 0, 3, 9, 0, 1), 0);
        Due.due("8: behind", x.why(0, 0, 0, 3, 10, 0, 1), 8);
        Due.due("8: another day", x.why(0, 0, 0, 4, 9, 0, 1), 8);
        Due.due("8: another tower", x.why(1, 0, 0, 3, 9, 0, 1), 8);
        Due.no("8: from above to", x.leave(0, 3, 10, 9));
        Due.no("8: hour -1", x.leave(0, 3, -1, 9));
        Due.no("8: hour 24", x.leave(0, 3, 1, 24));
        Due.no("8: day 100", x.leave(0, 100, 1, 2));
        Due.no("8: day -1", x.leave(0, -1, 1, 2));
        Due.no("8: no tower", x.leave(2, 1, 1, 2));
        for (int i = 1; i < 60; i++) Due.yes("8: leave " + i, x.leave(1, 99, 0, 23));
        Due.due("8: 60 are there", x.count(3), 60);
        Due.no("8: a 61st", x.leave(1, 98, 0, 23));
    }

    private static void promise9() {
        MenOnCradles x = Due.ready();
        Due.due("9: one", x.count(7), 1);
        Due.yes("9: 9 is one", x.elder(9, true));
        Due.yes("9: again", x.elder(9, true));
        Due.due("9: two", x.count(7), 2);
        Due.yes("9: 0 is none", x.elder(0, false));
        Due.due("9: one again", x.count(7), 1);
        Due.due("9: WHY", x.why(0, 0, 0, 1, 8, 0, 1), 3);
        Due.no("9: 10", x.elder(10, true));
        Due.no("9: -1", x.elder(-1, true));
        Due.no("9: far off", x.elder(Integer.MAX_VALUE, true));
    }

    private static void promise10() {
        MenOnCradles x = Due.ready();
        Texts.rule(x, "drill 3;");
        Due.due("10: three days ahead", x.why(0, 0, 0, 3, 8, 0, 1), 0);
        Due.due("10: four days ahead", x.why(0, 0, 0, 4, 8, 0, 1), 7);
        Due.yes("10: told", x.drill(0, 4));
        Due.due("10: both must", x.why(0, 0, 0, 4, 8, 0, 1), 7);
        Due.due("10: the other way round", x.why(0, 0, 0, 4, 8, 1, 0), 7);
        Due.yes("10: told on the day", x.drill(1, 4));
        Due.due("10: on the day", x.why(0, 0, 0, 4, 8, 0, 1), 0);
        Due.due("10: ahead of the drill", x.why(0, 0, 0, 3, 8, 0, 1), 7);
        Due.yes("10: an earlier day is told", x.drill(1, 0));
        Due.due("10: it counts", x.why(0, 0, 0, 4, 8, 0, 1), 7);
        Due.due("10: never", x.why(0, 0, 0, 1, 8, 0, 4), 7);
        Due.yes("10: day 99", x.drill(9, 99));
        Due.no("10: day 100", x.drill(0, 100));
        Due.no("10: day -1", x.drill(0, -1));
        Due.no("10: person 10", x.drill(10, 1));
        Due.no("10: person -1", x.drill(-1, 1));
    }

    public static void main(String[] args) {
        promise1();
        promise2();
        promise3();
        promise4();
        promise5();
        promise6();
        promise7();
        promise8();
        promise9();
        promise10();
        Due.end("TellTest");
    }
}
