/** Promises 47 to 50: water by pane, hours aloft, what is learnt, days since the drill. */
public final class HoursTest {
    private static void promise47() {
        MenOnCradles x = Due.ready();
        Texts.rule(x, "water 22;");
        x.block(0, 0, 3, 1, true);
        x.drop(0, 0, 0, 1, 8, 0, 1);
        // 22 by 7 panes: 3 each, and one more for the highest of column 0.
        int[][] due = {{3, 3}, {3, 3}, {3, 3}, {4, 0}};
        for (int f = 0; f < 4; f++) for (int c = 0; c < 2; c++) Due.due("47: pane " + f + " " + c, x.water(0, 0, f, c, 0, 99), due[f][c]);
        Texts.rule(x, "water 13;");
        x.drop(0, 0, 1, 2, 8, 0, 1);
        // 13 by 7: 1 each, and one more for the three of column 1 and the three highest of column 2.
        int[][] then = {{3, 5, 1}, {3, 5, 2}, {3, 5, 2}, {4, 0, 2}};
        for (int f = 0; f < 4; f++) for (int c = 0; c < 3; c++) Due.due("47: both, pane " + f + " " + c, x.water(0, 0, f, c, 0, 99), then[f][c]);
        Due.due("47: the first day alone", x.water(0, 0, 0, 1, 0, 1), 3);
        Due.due("47: the second day alone", x.water(0, 0, 0, 1, 2, 2), 2);
        Due.due("47: neither", x.water(0, 0, 0, 1, 3, 99), 0);
        Due.due("47: another side", x.water(0, 1, 0, 1, 0, 99), 0);
        x.block(0, 0, 0, 1, true);
        Due.due("47: as it was then", x.water(0, 0, 0, 1, 0, 99), 5);
        Texts.rule(x, "water 0 - 9;");
        x.drop(0, 2, 0, 3, 8, 0, 1);
        Due.due("47: below 0 is 0", x.water(0, 2, 0, 0, 0, 99), 0);
        Due.none("47: from above to", x.water(0, 0, 0, 1, 3, 2));
        Due.none("47: day 100", x.water(0, 0, 0, 1, 3, 100));
        Due.none("47: day -1", x.water(0, 0, 0, 1, -1, 2));
        Due.none("47: no pane", x.water(0, 0, 4, 1, 0, 2));
        Due.none("47: no column", x.water(0, 0, 0, 5, 0, 2));
        Due.none("47: no tower", x.water(2, 0, 0, 0, 0, 2));
    }

    private static MenOnCradles worked() {
        MenOnCradles x = Due.ready();
        x.elder(3, true);
        x.drop(1, 0, 0, 1, 8, 0, 1);
        x.drop(0, 0, 0, 1, 11, 1, 3);
        x.drop(1, 0, 0, 2, 8, 1, 3);
        x.drop(0, 0, 0, 4, 8, 0, 3);
        return x;
    }

    private static void promise48() {
        MenOnCradles x = worked();
        Due.due("48: all", x.aloft(1, 0, 99), 7);
        Due.due("48: the first day", x.aloft(1, 1, 1), 4);
        Due.due("48: the second day", x.aloft(1, 2, 3), 3);
        Due.due("48: as the second of the two", x.aloft(3, 2, 4), 4);
        Due.due("48: never", x.aloft(9, 0, 99), 0);
        Texts.rule(x, "rate 1;");
        Due.due("48: hours are kept", x.aloft(1, 0, 99), 7);
        Due.none("48: from above to", x.aloft(1, 2, 1));
        Due.none("48: day 100", x.aloft(1, 2, 100));
        Due.none("48: day -1", x.aloft(1, -1, 1));
        Due.none("48: person 10", x.aloft(10, 0, 1));
        Due.none("48: person -1", x.aloft(-1, 0, 1));
    }

    private static void promise49() {
        MenOnCradles x = worked();
        Due.due("49: one hour", x.learnt(1, 1), 1);
        Due.due("49: all of the first day", x.learnt(1, 4), 1);
        Due.due("49: one more", x.learnt(1, 5), 2);
        Due.due("49: all", x.learnt(1, 7), 2);
        Due.none("49: on none", x.learnt(1, 8));
        Due.due("49: an elder with an elder", x.learnt(0, 1), 4);
        Due.none("49: an elder with a learner does not count", x.learnt(0, 2));
        x.elder(3, false);
        Due.due("49: elders as told now", x.learnt(1, 3), 1);
        Due.none("49: with 3 he learns no more", x.learnt(1, 4));
        x.elder(1, true);
        Due.due("49: 3 does with 1", x.learnt(3, 4), 2);
        Due.due("49: and with 0", x.learnt(3, 5), 4);
        Due.none("49: hours 0", x.learnt(1, 0));
        Due.none("49: hours -1", x.learnt(1, -1));
        Due.none("49: hours 999", x.learnt(1, 999));
        Due.none("49: hours 1000", x.learnt(1, 1000));
        Due.none("49: person 10", x.learnt(10, 1));
        Due.none("49: person -1", x.learnt(-1, 1));
    }

    private static void promise50() {
        MenOnCradles x = Due.ready();
        Due.none("50: no drop", x.gap(0));
        x.drop(0, 0, 0, 1, 8, 0, 1);
        Due.due("50: a day", x.gap(0), 1);
        x.drop(0, 0, 0, 4, 8, 1, 0);
        Due.due("50: the most", x.gap(0), 4);
        x.drill(0, 5);
        Due.due("50: as it was told then", x.gap(0), 4);
        x.drill(1, 3);
        x.drop(0, 0, 0, 5, 8, 0, 1);
        Due.due("50: of both", x.gap(1), 4);
        x.drill(2, 5);
        x.drop(0, 0, 0, 5, 9, 0, 2);
        Due.due("50: on the day", x.gap(2), 0);
        Due.none("50: drilled, no drop", x.gap(3));
        Due.none("50: person 10", x.gap(10));
        Due.none("50: person -1", x.gap(-1));
    }

    public static void main(String[] args) {
        promise47();
        promise48();
        promise49();
        promise50();
        Due.end("HoursTest");
    }
}
