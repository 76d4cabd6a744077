/** Promises 40 to 46: film crews, and complaints by weather and by weekday. */
public final class ComplaintTest {
    private static void promise40() {
        MenOnCradles x = Due.ready();
        Due.yes("40: one hour of one day", x.film(0, 1, 2, 2, 9, 9));
        Due.due("40: in it", x.why(0, 1, 0, 2, 9, 0, 1), 13);
        Due.due("40: an hour ahead", x.why(0, 1, 0, 2, 8, 0, 1), 0);
        Due.due("40: an hour behind", x.why(0, 1, 0, 2, 10, 0, 1), 0);
        Due.due("40: a day ahead", x.why(0, 1, 0, 1, 9, 0, 1), 0);
        Due.due("40: a day behind", x.why(0, 1, 0, 3, 9, 0, 1), 0);
        Due.due("40: another side", x.why(0, 0, 0, 2, 9, 0, 1), 0);
        Due.due("40: another tower", x.why(1, 1, 0, 2, 9, 0, 1), 0);
        Due.yes("40: hours of days", x.film(0, 2, 1, 3, 10, 12));
        Due.due("40: the first day", x.why(0, 2, 0, 1, 12, 0, 1), 13);
        Due.due("40: the last day", x.why(0, 2, 0, 3, 10, 0, 1), 13);
        Due.due("40: between, but not in its hours", x.why(0, 2, 0, 2, 13, 0, 1), 0);
        Due.no("40: from above to", x.film(0, 2, 3, 2, 10, 12));
        Due.no("40: first above last", x.film(0, 2, 1, 3, 12, 10));
        Due.no("40: day -1", x.film(0, 2, -1, 3, 10, 12));
        Due.no("40: day 100", x.film(0, 2, 1, 100, 10, 12));
        Due.no("40: hour -1", x.film(0, 2, 1, 3, -1, 12));
        Due.no("40: hour 24", x.film(0, 2, 1, 3, 10, 24));
        Due.no("40: no side", x.film(0, 4, 1, 3, 10, 12));
        Due.no("40: no tower", x.film(2, 0, 1, 3, 10, 12));
        for (int i = 2; i < 12; i++) Due.yes("40: film " + i, x.film(0, 3, 0, 99, 0, 23));
        Due.due("40: 12 are there", x.count(10), 12);
        Due.no("40: a 13th", x.film(0, 3, 0, 99, 0, 23));
    }

    private static void promise41() {
        MenOnCradles x = Due.ready();
        x.drop(1, 0, 0, 1, 10, 0, 1);
        x.drop(1, 1, 0, 2, 10, 0, 1);
        x.drop(0, 0, 0, 2, 14, 0, 1);
        Due.due("41: none", x.clashes(1), 0);
        x.film(1, 0, 0, 9, 12, 13);
        Due.due("41: its last hour", x.clashes(1), 1);
        x.film(1, 0, 1, 1, 10, 10);
        Due.due("41: a drop counts once", x.clashes(1), 1);
        x.film(1, 1, 2, 2, 13, 13);
        Due.due("41: behind it", x.clashes(1), 1);
        x.film(1, 1, 2, 2, 0, 10);
        Due.due("41: two", x.clashes(1), 2);
        Due.due("41: the other tower's", x.clashes(0), 0);
        Due.none("41: no tower told", x.clashes(2));
        Due.none("41: tower -1", x.clashes(-1));
        Due.none("41: tower 6", x.clashes(6));
    }

    private static void promise42() {
        MenOnCradles x = Due.ready();
        Due.due("42: the first", x.complain(0, 0, 0, 0, 0), 0);
        Due.due("42: the second", x.complain(1, 3, 9, 99, 23), 1);
        Due.none("42: no floor", x.complain(0, 0, 4, 0, 0));
        Due.none("42: floor -1", x.complain(0, 0, -1, 0, 0));
        Due.none("42: no side", x.complain(0, 4, 0, 0, 0));
        Due.none("42: no tower", x.complain(2, 0, 0, 0, 0));
        Due.none("42: day 100", x.complain(0, 0, 0, 100, 0));
        Due.none("42: day -1", x.complain(0, 0, 0, -1, 0));
        Due.none("42: hour 24", x.complain(0, 0, 0, 0, 24));
        Due.none("42: hour -1", x.complain(0, 0, 0, 0, -1));
        for (int i = 2; i < 40; i++) Due.due("42: number " + i, x.complain(0, 0, 0, 0, 0), i);
        Due.due("42: 40 are there", x.count(11), 40);
        Due.none("42: a 41st", x.complain(0, 0, 0, 0, 0));
    }

    /** Tower 1 has 10 floors; by 4 a drop passes 9 to 6, 5 to 2, 1 and 0. */
    private static void promise43() {
        MenOnCradles x = Due.ready();
        x.drop(0, 0, 0, 1, 8, 0, 1);
        x.drop(1, 2, 1, 1, 10, 0, 1);
        int[] passed = {12, 12, 11, 11, 11, 11, 10, 10, 10, 10};
        int n = 0;
        for (int f = 0; f < 10; f++) {
            for (int h = 9; h <= 13; h++) {
                if (n >= 40) break;
                x.complain(1, 2, f, 1, h);
                Due.due("43: floor " + f + " at " + h, x.ours(n, 0), passed[f] == h ? 1 : 0);
                Due.due("43: which", x.ours(n, 1), passed[f] == h ? 1 : -1);
                n++;
            }
        }
        Due.none("43: no complaint", x.ours(40, 0));
        Due.none("43: complaint -1", x.ours(-1, 0));
        Due.due("43: this one is", x.ours(3, 0), 1);
        Due.none("43: what 2", x.ours(3, 2));
        Due.none("43: what -1", x.ours(0, -1));
        MenOnCradles y = Due.ready();
        y.drop(1, 2, 1, 1, 10, 0, 1);
        y.complain(1, 2, 9, 1, 10);
        y.complain(1, 1, 9, 1, 10);
        y.complain(1, 2, 9, 2, 10);
        y.complain(0, 2, 3, 1, 10);
        y.complain(1, 2, 9, 1, 10);
        int[] due = {1, 0, 0, 0, 1};
        for (int i = 0; i < 5; i++) Due.due("43: by its place and day, " + i, y.ours(i, 0), due[i]);
        Texts.rule(y, "rate 1;");
        Due.due("43: the rate then counts", y.ours(0, 0), 1);
        y.complain(1, 2, 6, 1, 10);
        Due.due("43: and on another floor", y.ours(5, 0), 1);
    }

    private static MenOnCradles windy() {
        MenOnCradles x = Due.ready();
        x.drop(1, 0, 0, 1, 10, 0, 1);
        x.drop(1, 1, 0, 2, 10, 0, 1);
        x.drop(0, 1, 0, 2, 14, 0, 1);
        x.wind(0, 1, 10, 9);
        x.wind(0, 1, 11, 10);
        x.wind(0, 1, 12, 19);
        x.wind(1, 2, 10, 20);
        x.wind(1, 2, 11, 99);
        x.wind(1, 2, 14, 98);
        return x;
    }

    private static void promise44() {
        MenOnCradles x = windy();
        int[] hours = {2, 2, 1, 0, 0, 0, 0, 0, 0, 2};
        for (int b = 0; b < 10; b++) Due.due("44: hours in band " + b, x.band(b, 0), hours[b]);
        x.complain(1, 0, 9, 1, 10);
        x.complain(1, 0, 2, 1, 11);
        x.complain(1, 0, 3, 1, 11);
        x.complain(1, 0, 9, 1, 12);
        x.complain(0, 1, 0, 2, 14);
        int[] ours = {1, 2, 0, 0, 0, 0, 0, 0, 0, 1};
        for (int b = 0; b < 10; b++) Due.due("44: ours in band " + b, x.band(b, 1), ours[b]);
        x.wind(0, 1, 11, 55);
        Due.due("44: as told now, hours", x.band(5, 0), 1);
        Due.due("44: as told now, ours", x.band(5, 1), 2);
        Due.due("44: gone from where it was", x.band(1, 1), 0);
        Due.none("44: band 10", x.band(10, 0));
        Due.none("44: band -1", x.band(-1, 0));
        Due.none("44: what 2", x.band(0, 2));
        Due.none("44: what -1", x.band(0, -1));
    }

    private static void promise45() {
        MenOnCradles e = Due.ready();
        Due.none("45: no hours", e.worst());
        e.complain(0, 0, 0, 1, 8);
        Due.none("45: a complaint, no hours", e.worst());
        MenOnCradles x = windy();
        Due.due("45: all equal, the least", x.worst(), 0);
        x.complain(1, 0, 2, 1, 11);
        Due.due("45: one of two hours", x.worst(), 1);
        x.complain(0, 1, 0, 2, 14);
        Due.due("45: equal, the least", x.worst(), 1);
        x.complain(1, 1, 9, 2, 10);
        Due.due("45: one of one hour", x.worst(), 2);
        x.complain(0, 1, 1, 2, 14);
        Due.due("45: two of two hours is equal", x.worst(), 2);
        x.complain(0, 1, 2, 2, 14);
        Due.due("45: three of two", x.worst(), 9);
        x.complain(0, 1, 2, 2, 15);
        x.complain(1, 0, 2, 1, 11);
        Due.due("45: what is not ours does not count", x.worst(), 9);
    }

    private static void promise46() {
        MenOnCradles x = Due.ready();
        x.leave(1, 9, 0, 23);
        x.drop(1, 0, 0, 1, 10, 0, 1);
        x.drop(1, 0, 0, 2, 10, 0, 1);
        x.drop(1, 1, 0, 2, 20, 0, 1);
        x.drop(1, 1, 0, 9, 20, 0, 1);
        x.complain(1, 0, 0, 16, 3);
        x.complain(1, 3, 0, 2, 3);
        x.complain(0, 0, 0, 2, 3);
        Due.due("46: drops", x.week(1, 2, 0), 3);
        Due.due("46: hours", x.week(1, 2, 1), 9);
        Due.due("46: complaints, ours or not", x.week(1, 2, 2), 2);
        Due.due("46: another weekday", x.week(1, 1, 0), 1);
        Due.due("46: the other tower", x.week(0, 2, 0), 0);
        Due.due("46: its complaint", x.week(0, 2, 2), 1);
        Due.due("46: nothing", x.week(1, 6, 1), 0);
        Due.none("46: weekday 7", x.week(1, 7, 0));
        Due.none("46: weekday -1", x.week(1, -1, 0));
        Due.none("46: what 3", x.week(1, 2, 3));
        Due.none("46: what -1", x.week(1, 2, -1));
        Due.none("46: no tower", x.week(2, 2, 0));
        Due.none("46: not all towers", x.week(-1, 2, 0));
    }

    public static void main(String[] args) {
        promise40();
        promise41();
        promise42();
        promise43();
        promise44();
        promise45();
        promise46();
        Due.end("ComplaintTest");
    }
}
