/** Promises 37 to 39: keys taken and given back. */
public final class KeyTest {
    private static void promise37() {
        MenOnCradles x = Due.ready();
        Due.no("37: nobody has it", x.key(0, 1, 0, 0, false));
        Due.yes("37: taken", x.key(0, 1, 2, 5, true));
        Due.no("37: by another", x.key(0, 2, 2, 6, true));
        Due.no("37: by himself again", x.key(0, 1, 2, 6, true));
        Due.no("37: given back by another", x.key(0, 2, 2, 6, false));
        Due.no("37: an hour ahead of the line before", x.key(0, 1, 2, 4, false));
        Due.no("37: a day ahead", x.key(0, 1, 1, 23, false));
        Due.no("37: a line of another tower, ahead", x.key(1, 1, 2, 4, true));
        Due.yes("37: another tower's, in the same hour", x.key(1, 1, 2, 5, true));
        Due.yes("37: given back in the same hour", x.key(0, 1, 2, 5, false));
        Due.yes("37: taken in the same hour", x.key(0, 2, 2, 5, true));
        Due.yes("37: a day on, an earlier hour", x.key(0, 2, 3, 0, false));
        Due.due("37: lines", x.count(9), 5);
        Due.no("37: no tower", x.key(2, 0, 5, 0, true));
        Due.no("37: person 10", x.key(0, 10, 5, 0, true));
        Due.no("37: person -1 gives back what nobody has", x.key(0, -1, 5, 0, false));
        Due.no("37: day 100", x.key(0, 0, 100, 0, true));
        Due.no("37: day -1", x.key(0, 0, -1, 0, true));
        Due.no("37: hour 24", x.key(0, 0, 5, 24, true));
        Due.no("37: hour -1", x.key(0, 0, 5, -1, true));
        for (int i = 5; i < 60; i++) Due.yes("37: line " + i, x.key(0, 3, 5, 0, i % 2 == 1));
        Due.due("37: 60 are there", x.count(9), 60);
        Due.no("37: a 61st", x.key(0, 3, 5, 0, false));
    }

    private static void promise38() {
        MenOnCradles x = Due.ready();
        Due.none("38: nobody", x.holds(0, 0, 0));
        x.key(0, 9, 2, 5, true);
        x.key(0, 9, 4, 3, false);
        x.key(0, 0, 4, 3, true);
        Due.none("38: ahead of it", x.holds(0, 2, 4));
        Due.due("38: in its hour", x.holds(0, 2, 5), 9);
        Due.due("38: on an earlier hour of a later day", x.holds(0, 3, 0), 9);
        Due.due("38: the last hour", x.holds(0, 4, 2), 9);
        Due.due("38: handed on", x.holds(0, 4, 3), 0);
        Due.due("38: to the end", x.holds(0, 99, 23), 0);
        Due.none("38: another tower", x.holds(1, 99, 23));
        Due.none("38: no tower", x.holds(2, 0, 0));
        Due.none("38: day 100", x.holds(0, 100, 0));
        Due.none("38: day -1", x.holds(0, -1, 0));
        Due.none("38: hour 24", x.holds(0, 4, 24));
        Due.none("38: hour -1", x.holds(0, 4, -1));
    }

    private static void promise39() {
        MenOnCradles x = Due.ready();
        Due.due("39: never out", x.out(0, 99, 23), 0);
        x.key(0, 1, 1, 10, true);
        x.key(1, 2, 1, 11, true);
        x.key(0, 1, 1, 20, false);
        x.key(0, 1, 2, 2, true);
        x.key(0, 1, 2, 6, false);
        x.key(0, 3, 3, 0, true);
        Due.due("39: ahead of it", x.out(0, 1, 9), 0);
        Due.due("39: just taken", x.out(0, 1, 10), 0);
        Due.due("39: not back by then", x.out(0, 1, 15), 5);
        Due.due("39: back", x.out(0, 1, 20), 10);
        Due.due("39: the most of them", x.out(0, 2, 6), 10);
        Due.due("39: taken anew, not long", x.out(0, 3, 9), 10);
        Due.due("39: longer", x.out(0, 3, 11), 11);
        Due.due("39: 24 a day", x.out(0, 5, 1), 49);
        Due.due("39: another tower's", x.out(1, 2, 11), 24);
        Due.none("39: no tower", x.out(2, 0, 0));
        Due.none("39: day 100", x.out(0, 100, 0));
        Due.none("39: day -1", x.out(0, -1, 0));
        Due.none("39: hour 24", x.out(0, 1, 24));
        Due.none("39: hour -1", x.out(0, 1, -1));
    }

    public static void main(String[] args) {
        promise37();
        promise38();
        promise39();
        Due.end("KeyTest");
    }
}
