/** Promises 26 to 30, 54 and 55: days planned, the row of sides chosen ahead, and hindsight. */
public final class PlanTest {
    private static void chances(MenOnCradles x, int ten) {
        for (int d = 0; d < 5; d++) for (int s = 0; s < 4; s++) x.chance(d, s, ten);
    }

    private static void fraction(String what, MenOnCradles x, int day, int left, long above, long below) {
        Due.due(what + ", above", x.plan(day, left, 0), above);
        Due.due(what + ", below", x.plan(day, left, 1), below);
    }

    private static void promise26() {
        MenOnCradles x = new MenOnCradles();
        Due.none("26: side 4", x.want(4, 1));
        Due.none("26: side -1", x.want(-1, 1));
        Due.none("26: worth 0", x.want(0, 0));
        Due.none("26: worth 100", x.want(0, 100));
        for (int i = 0; i < 8; i++) Due.due("26: number " + i, x.want(i % 4, i == 0 ? 1 : 99), i);
        Due.none("26: a ninth", x.want(0, 5));
        Due.due("26: 8 are there", x.count(4), 8);
    }

    private static void promise27() {
        MenOnCradles x = new MenOnCradles();
        x.want(3, 10);
        fraction("27: 5 of ten at first", x, 4, 1, 5, 1);
        Due.yes("27: none of ten", x.chance(4, 3, 0));
        fraction("27: nothing then", x, 4, 1, 0, 1);
        Due.none("27: no side then", x.plan(4, 1, 2));
        Due.yes("27: ten of ten", x.chance(4, 3, 10));
        fraction("27: all then", x, 4, 1, 10, 1);
        Due.yes("27: of the first day", x.chance(0, 0, 3));
        fraction("27: another day and side", x, 4, 1, 10, 1);
        Due.no("27: day 5", x.chance(5, 0, 1));
        Due.no("27: day -1", x.chance(-1, 0, 1));
        Due.no("27: side 4", x.chance(0, 4, 1));
        Due.no("27: side -1", x.chance(0, -1, 1));
        Due.no("27: 11 of ten", x.chance(0, 0, 11));
        Due.no("27: -1 of ten", x.chance(0, 0, -1));
    }

    private static void promise28() {
        MenOnCradles x = new MenOnCradles();
        for (int w = 1; w <= 8; w++) x.want(1, w);
        chances(x, 10);
        Due.due("28: 2 at first", x.plan(4, 255, 0), 15);
        for (int n = 1; n <= 8; n++) {
            Due.yes("28: cap " + n, x.cap(n));
            Due.due("28: the greatest first", x.plan(4, 255, 0), 36 - (8 - n) * (9 - n) / 2);
        }
        Due.no("28: cap 0", x.cap(0));
        Due.no("28: cap 9", x.cap(9));
        Due.due("28: stays 8", x.plan(4, 255, 0), 36);
    }

    private static void promise29() {
        MenOnCradles x = new MenOnCradles();
        fraction("29: nothing wanted", x, 0, 0, 0, 1);
        Due.none("29: no side", x.plan(0, 0, 2));
        Due.noSuch("29: left of none", () -> x.plan(0, 1, 0));
        x.want(0, 10);
        x.want(1, 8);
        x.cap(1);
        x.chance(4, 0, 3);
        x.chance(4, 1, 4);
        fraction("29: 4 of ten for 8", x, 4, 3, 16, 5);
        Due.due("29: the better side", x.plan(4, 3, 2), 1);
        fraction("29: only the other is left", x, 4, 1, 3, 1);
        Due.due("29: then that", x.plan(4, 1, 2), 0);
        // Day 3 by side 0: 5/10 * (10 + 16/5) + 5/10 * 16/5; by side 1: 5/10 * (8 + 3) + 5/10 * 16/5.
        fraction("29: from the last one back", x, 3, 3, 41, 5);
        fraction("29: asked again", x, 3, 3, 41, 5);
        Due.due("29: and the side there", x.plan(3, 3, 2), 0);
        x.chance(3, 0, 0);
        fraction("29: side 1 first", x, 3, 3, 71, 10);
        Due.due("29: and that side", x.plan(3, 3, 2), 1);
        x.want(2, 8);
        x.chance(4, 2, 4);
        Due.due("29: the least of equal ones", x.plan(4, 7, 2), 1);
        chances(x, 10);
        Due.none("29: none if no side brings more", x.plan(0, 7, 2));
        Due.none("29: nor on the day after", x.plan(1, 7, 2));
        Due.due("29: when it must be", x.plan(2, 7, 2), 0);
        Due.noSuch("29: day 5", () -> x.plan(5, 0, 0));
        Due.noSuch("29: day -1", () -> x.plan(-1, 0, 0));
        Due.noSuch("29: what 3", () -> x.plan(0, 0, 3));
        Due.noSuch("29: what -1", () -> x.plan(0, 0, -1));
        Due.noSuch("29: left 8 of three", () -> x.plan(0, 8, 0));
        Due.noSuch("29: left -1", () -> x.plan(0, -1, 0));
    }

    private static void equalWorth29() {
        MenOnCradles x = new MenOnCradles();
        x.want(0, 6);
        x.want(0, 9);
        x.want(0, 6);
        x.cap(2);
        chances(x, 0);
        x.chance(3, 0, 5);
        x.chance(4, 0, 10);
        // Day 3: half of 15 and then 6, half of nothing and then 15.
        fraction("29: of one side", x, 3, 7, 18, 1);
        fraction("29: two of equal worth", x, 4, 5, 12, 1);
        fraction("29: with all days", x, 0, 7, 18, 1);
    }

    private static void promise30() {
        MenOnCradles x = new MenOnCradles();
        Due.due("30: nothing wanted", x.fixed(0), 0);
        Due.due("30: below", x.fixed(1), 1);
        for (int what = 2; what <= 6; what++) Due.due("30: side 0 is the first in order", x.fixed(what), 0);
        Due.due("55: nothing wanted", x.hindsight(2), 0);
        x.want(3, 10);
        Due.due("30: not what was found ahead of it", x.fixed(0), 155);
        Due.due("55: nor that", x.hindsight(2), 10);
        x.cap(1);
        // One wanted on side 3 with 5 of ten on each of five days: 10 * (1 - 1/32).
        Due.due("30: above", x.fixed(0), 155);
        Due.due("30: below it", x.fixed(1), 16);
        for (int what = 2; what <= 6; what++) Due.due("30: each day side 3", x.fixed(what), 3);
        chances(x, 0);
        for (int what = 2; what <= 6; what++) Due.due("30: all are as good", x.fixed(what), 0);
        x.chance(1, 3, 10);
        int[] row = {0, 3, 0, 0, 0};
        for (int d = 0; d < 5; d++) Due.due("30: just day 1", x.fixed(2 + d), row[d]);
        Due.due("30: ten", x.fixed(0), 10);
        Due.noSuch("30: what 7", () -> x.fixed(7));
        Due.noSuch("30: what -1", () -> x.fixed(-1));
    }

    private static void aheadIsLess30() {
        MenOnCradles x = new MenOnCradles();
        x.want(1, 10);
        x.want(2, 6);
        x.cap(1);
        chances(x, 0);
        x.chance(0, 1, 5);
        x.chance(1, 1, 10);
        x.chance(1, 2, 10);
        // Ahead: day 0 by 1 and day 1 by 2 is 5 + 6; day 1 by 1 is 10. By plan: half of 10 + 6, half of 10.
        Due.due("30: chosen ahead", x.fixed(0), 11);
        Due.due("30: its day 0", x.fixed(2), 1);
        Due.due("30: its day 1", x.fixed(3), 2);
        Due.due("29: by plan it is more", x.plan(0, 3, 0), 13);
        x.came(0, 1, false);
        Due.due("55: by plan", x.hindsight(0), 10);
        Due.due("55: by fixed", x.hindsight(1), 6);
        Due.due("55: at most, by all that came", x.hindsight(2), 16);
        x.came(0, 1, true);
        Due.due("55: by plan, if it could", x.hindsight(0), 16);
        Due.due("55: by fixed, if it could", x.hindsight(1), 16);
        for (int d = 0; d < 5; d++) for (int s = 0; s < 4; s++) x.came(d, s, d == 4 && s == 2);
        Due.due("55: by plan, nothing", x.hindsight(0), 0);
        Due.due("55: by fixed, nothing", x.hindsight(1), 0);
        Due.due("55: at most what is on the last day", x.hindsight(2), 6);
        x.came(3, 1, true);
        Due.due("55: and on the day ahead", x.hindsight(2), 16);
        x.came(3, 1, false);
        x.came(4, 1, true);
        Due.due("55: one side a day", x.hindsight(2), 10);
        x.want(1, 9);
        Due.due("55: cap 1", x.hindsight(2), 10);
        x.cap(2);
        Due.due("55: cap 2", x.hindsight(2), 19);
    }

    private static void promise54() {
        MenOnCradles x = new MenOnCradles();
        x.want(0, 5);
        Due.due("54: it could at first", x.hindsight(2), 5);
        for (int d = 0; d < 5; d++) Due.yes("54: told", x.came(d, 0, false));
        Due.due("54: it could not", x.hindsight(2), 0);
        Due.yes("54: told again", x.came(4, 0, true));
        Due.due("54: it could", x.hindsight(2), 5);
        Due.no("54: day 5", x.came(5, 0, true));
        Due.no("54: day -1", x.came(-1, 0, true));
        Due.no("54: side 4", x.came(0, 4, true));
        Due.no("54: side -1", x.came(0, -1, true));
        Due.none("55: what 3", x.hindsight(3));
        Due.none("55: what -1", x.hindsight(-1));
    }

    public static void main(String[] args) {
        promise26();
        promise27();
        promise28();
        promise29();
        equalWorth29();
        promise30();
        aheadIsLess30();
        promise54();
        Due.end("PlanTest");
    }
}
