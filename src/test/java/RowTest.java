/** Promises 51 to 53, 56 and 57: a row of drops tried, marks, counts. */
public final class RowTest {
    private static void promise51() {
        MenOnCradles x = Due.ready();
        Due.due("51: one", x.row(0, 0, 0, 1, 8, 0, 1), 1);
        Due.due("51: what may not be too", x.row(0, 3, 4, 99, 23, 9, 9), 2);
        Due.none("51: no tower", x.row(2, 0, 0, 1, 8, 0, 1));
        Due.none("51: no side", x.row(0, 4, 0, 1, 8, 0, 1));
        Due.none("51: no stop", x.row(0, 0, 5, 1, 8, 0, 1));
        Due.none("51: day 100", x.row(0, 0, 0, 100, 8, 0, 1));
        Due.none("51: day -1", x.row(0, 0, 0, -1, 8, 0, 1));
        Due.none("51: hour 24", x.row(0, 0, 0, 1, 24, 0, 1));
        Due.none("51: hour -1", x.row(0, 0, 0, 1, -1, 0, 1));
        Due.none("51: person 10", x.row(0, 0, 0, 1, 8, 10, 1));
        Due.none("51: person -1", x.row(0, 0, 0, 1, 8, 0, -1));
        for (int n = 3; n <= 12; n++) Due.due("51: " + n, x.row(0, 0, 0, 1, 8, 0, 1), n);
        Due.none("51: a 13th", x.row(0, 0, 0, 1, 8, 0, 1));
        Due.due("51: count", x.count(12), 12);
        Due.yes("52: clear", x.clear());
        Due.due("52: empty", x.count(12), 0);
        Due.yes("52: clear again", x.clear());
        Due.due("51: from one again", x.row(0, 0, 0, 1, 8, 0, 1), 1);
    }

    private static void tried(String what, MenOnCradles x, long... due) {
        for (int i = 0; i < 5; i++) Due.due("53: " + what + ", tried(" + i + ")", x.tried(i), due[i]);
    }

    private static void promise53() {
        MenOnCradles x = Due.ready();
        Texts.rule(x, "wear 300; price 10 + worn + age;");
        tried("an empty row", x, -1, -1, 0, 0, 0);
        x.row(0, 0, 0, 1, 8, 0, 1);
        tried("one", x, -1, -1, 109, 1, 8);
        x.row(0, 0, 1, 2, 8, 0, 1);
        tried("two, one column twice", x, -1, -1, 109 + 409, 2, 12);
        x.row(0, 0, 0, 2, 9, 0, 1);
        tried("three, worn and age as if they were made", x, -1, -1, 109 + 409 + 611, 3, 12);
        x.row(0, 0, 2, 2, 9, 2, 0);
        x.row(0, 0, 2, 2, 10, 2, 0);
        tried("the fourth is aloft", x, 3, 5, 109 + 409 + 611, 3, 12);
        Due.due("53: nothing is made", x.count(1), 0);
        Due.none("53: nothing is washed", x.washed(0, 0, 0, 0));
        Due.due("53: nothing is worn", x.stands(0, 1), 1000);
        x.drop(0, 0, 0, 1, 9, 0, 1);
        tried("behind what is made, the third is beyond the rope's life", x, 2, 11, 310 + 709, 2, 12);
        x.cradle(0, 2, 700);
        tried("of a new rope with less life", x, 2, 11, 10 + 409, 2, 12);
        x.drop(0, 0, 0, 2, 17, 0, 1);
        tried("the first is ahead of what is made", x, 0, -1, 0, 0, 0);
        x.clear();
        x.row(0, 1, 0, 3, 8, 0, 1);
        x.row(0, 2, 0, 2, 8, 0, 1);
        tried("the second is ahead of the first", x, 1, -1, 409, 1, 8);
        Due.noSuch("53: what 5", () -> x.tried(5));
        Due.noSuch("53: what -1", () -> x.tried(-1));
    }

    private static void full53() {
        MenOnCradles x = Due.ready();
        for (int d = 1; d <= 5; d++) for (int h = 8; h <= 17; h++) x.drop(0, 1, 2, d, h, 0, 1);
        x.leave(0, 6, 0, 23);
        for (int h = 0; h < 9; h++) x.drop(0, 1, 2, 6, h, 0, 1);
        Due.due("53: 59 are made", x.count(1), 59);
        x.row(0, 1, 0, 6, 10, 0, 1);
        tried("the sixtieth", x, -1, -1, 0, 1, 8);
        x.row(0, 2, 0, 6, 11, 0, 1);
        tried("a 61st", x, 1, -1, 0, 1, 8);
        Due.due("53: one can still be made", x.drop(0, 1, 2, 6, 10, 0, 1), 59);
        tried("60 are there", x, 0, -1, 0, 0, 0);
        Due.due("53: of the last one all is kept", x.made(59, 4), 10);
    }

    private static void sides53() {
        MenOnCradles x = Due.ready();
        x.row(0, 0, 0, 1, 8, 0, 1);
        x.row(0, 1, 0, 1, 9, 0, 1);
        x.row(1, 0, 0, 1, 10, 0, 1);
        x.row(0, 0, 1, 2, 9, 0, 1);
        x.row(0, 0, 3, 2, 10, 0, 1);
        tried("panes by towers and sides", x, -1, -1, 0, 7, 8 + 8 + 20 + 4 + 8);
    }

    private static void promise56() {
        MenOnCradles x = Due.ready();
        Texts.rule(x, "wear 10;");
        Due.no("56: nothing is on it", x.mark(0, true));
        Due.no("56: mark 4", x.mark(4, false));
        Due.no("56: mark -1", x.mark(-1, false));
        Due.no("56: back to mark 4", x.mark(4, true));
        Due.no("56: back to mark -1", x.mark(-1, true));
        x.drop(0, 0, 0, 1, 8, 0, 1);
        Due.yes("56: laid", x.mark(2, false));
        x.drop(0, 0, 1, 2, 8, 0, 1);
        Due.yes("56: laid behind it", x.mark(0, false));
        x.drop(0, 0, 3, 3, 8, 0, 1);
        Due.yes("56: laid behind that", x.mark(3, false));
        Due.yes("56: back", x.mark(0, true));
        Due.due("56: drops", x.count(1), 2);
        Due.due("56: worn", x.stands(0, 1), 980);
        Due.none("56: not washed", x.washed(0, 0, 0, 3));
        Due.due("56: washed ahead of it", x.washed(0, 0, 0, 1), 2);
        Due.noSuch("56: the drop is gone", () -> x.made(2, 0));
        Due.no("56: the mark behind it is gone", x.mark(3, true));
        Due.yes("56: it stays itself", x.mark(0, true));
        Due.due("56: an earlier day may be again", x.why(0, 0, 0, 2, 9, 0, 1), 0);
        Due.yes("56: back to the first", x.mark(2, true));
        Due.due("56: one drop", x.count(1), 1);
        Due.due("56: washed as it was", x.washed(0, 0, 0, 1), 1);
        Due.due("56: worn as it was", x.stands(0, 1), 990);
        Due.no("56: the second is gone now", x.mark(0, true));
    }

    private static void again56() {
        MenOnCradles x = Due.ready();
        Texts.rule(x, "wear 10;");
        x.mark(0, false);
        x.mark(1, false);
        Due.yes("56: back to the first of two in a row", x.mark(0, true));
        Due.no("56: the one laid behind it is gone", x.mark(1, true));
        x.mark(1, false);
        x.drop(0, 0, 0, 1, 8, 0, 1);
        x.mark(0, false);
        Due.yes("56: back to 1, laid ahead of 0 now", x.mark(1, true));
        Due.no("56: 0 is gone", x.mark(0, true));
        x.drop(0, 0, 0, 1, 8, 0, 1);
        x.mark(2, false);
        x.cradle(0, 3, 500);
        Due.due("56: a new rope", x.stands(0, 1), 500);
        x.mark(2, true);
        Due.due("56: worn as on the mark, the life as told since", x.stands(0, 1), 490);
        Due.due("56: the width as told since", x.reach(0, 0, 0, 0), 12);
        Due.due("56: leaves are no part of it", x.count(3), 7);
    }

    private static void promise57() {
        MenOnCradles x = Due.ready();
        x.drop(0, 0, 0, 1, 8, 0, 1);
        for (int i = 0; i < 3; i++) x.nest(0, 0, 0, 0, 9, 9);
        for (int i = 0; i < 4; i++) x.want(0, 1);
        for (int i = 0; i < 5; i++) x.offer(i, 1, 1, 1);
        Texts.feed(x, "stop w");
        x.elder(8, true);
        for (int i = 0; i < 8; i++) x.block(1, 1, i, 1, true);
        for (int i = 0; i < 9; i++) x.key(0, 1, 1, 1, i % 2 == 0);
        for (int i = 0; i < 10; i++) x.film(0, 1, 1, 1, 1, 1);
        for (int i = 0; i < 11; i++) x.complain(0, 1, 1, 1, 1);
        for (int i = 0; i < 12; i++) x.row(0, 1, 1, 1, 1, 1, 1);
        int[] due = {2, 1, 3, 7, 4, 5, 6, 2, 8, 9, 10, 11, 12};
        for (int what = 0; what < 13; what++) Due.due("57: count(" + what + ")", x.count(what), due[what]);
        Due.none("57: what 13", x.count(13));
        Due.none("57: what -1", x.count(-1));
        Due.none("57: far off", x.count(Integer.MIN_VALUE));
    }

    public static void main(String[] args) {
        promise51();
        promise53();
        full53();
        sides53();
        promise56();
        again56();
        promise57();
        Due.end("RowTest");
    }
}
