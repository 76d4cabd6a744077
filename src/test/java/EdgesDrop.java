import java.util.ArrayList;
import java.util.List;

/** Edges of promises 13 to 19: what a drop reaches, why it may not be, what is kept of it, and wind heard of late. */
final class EdgesDrop {
    private EdgesDrop() { }

    static void all() {
        reaches();
        reachOthers();
        hoursTaken();
        firstThatHolds();
        why1();
        why2();
        why3();
        why4();
        why5();
        why6();
        why7();
        why8();
        why9();
        why10();
        why11();
        why12();
        why13();
        firstHour();
        whyOthers();
        orderOfDays();
        drops60();
        washes();
        kept();
        made();
        against();
        hoursKept();
        rescue();
        washed();
        againstSides();
        lost();
    }

    // -- 13

    private static void reaches() {
        Edge.term(13, "A DROP at a STOP x on a DAY REACHES the PANES of COLUMNS x to x + WIDTH - 1 (those that there are), "
            + "on all FLOORS, but for BLOCKED ones and those with a NEST on that DAY.");
        for (int width = 1; width <= 4; width++) {
            int w = width;
            Start s = Start.READY.then(x -> x.cradle(5, w, 9));
            for (int stop = 0; stop < 10; stop++) {
                int there = Math.min(w, 10 - stop);
                MenOnCradles x = s.make();
                Edge.is("width " + w + ", stop " + stop, 12 * there, x.reach(5, 0, stop, 0));
                x.block(5, 0, 0, stop, true);
                x.block(5, 0, 11, stop + there - 1, true);
                Edge.is("first column, lowest; last column, highest", 12 * there - 2, x.reach(5, 0, stop, 0));
                if (stop > 0) x.block(5, 0, 5, stop - 1, true);
                if (stop + w < 10) x.block(5, 0, 5, stop + w, true);
                Edge.is("none beside them", 12 * there - 2, x.reach(5, 0, stop, 0));
                x.nest(5, 0, 6, stop + there - 1, 4, 4);
                Edge.is("a nest on that day", 12 * there - 3, x.reach(5, 0, stop, 4));
                Edge.is("on another day", 12 * there - 2, x.reach(5, 0, stop, 5));
                x.nest(5, 0, 0, stop, 4, 4);
                Edge.is("a nest on one that is blocked", 12 * there - 3, x.reach(5, 0, stop, 4));
            }
        }
        MenOnCradles x = Start.NEW.then(y -> y.tower(2, 1, 1), y -> y.cradle(2, 4, 1)).make();
        Edge.is("the only pane", 1, x.reach(2, 3, 0, 99));
        x.nest(2, 3, 0, 0, 99, 99);
        Edge.is("and none", 0, x.reach(2, 3, 0, 99));
    }

    private static void reachOthers() {
        Edge.promise(13, "How many PANES a DROP REACHES; NONE: others.");
        for (int side : Edge.ends(0, 3)) for (int day : Edge.ends(0, 99)) {
            Edge.is("the first stop", 8, Start.READY.make().reach(0, side, 0, day));
            Edge.is("the last stop", 4, Start.READY.make().reach(0, side, 4, day));
        }
        for (int t : new int[] {-1, 2, 3, 4, 6, Edge.MIN, Edge.MAX}) Edge.refusedNone("tower " + t, Start.BUSY, x -> x.reach(t, 0, 0, 0));
        for (int s : Edge.beyond(0, 3)) Edge.refusedNone("side " + s, Start.BUSY, x -> x.reach(0, s, 0, 0));
        for (int c : Edge.beyond(0, 4)) Edge.refusedNone("stop " + c, Start.BUSY, x -> x.reach(0, 0, c, 0));
        for (int c : Edge.beyond(0, 2)) Edge.refusedNone("stop " + c + " of tower 1", Start.BUSY, x -> x.reach(1, 0, c, 0));
        for (int d : Edge.beyond(0, 99)) Edge.refusedNone("day " + d, Start.BUSY, x -> x.reach(0, 0, 0, d));
    }

    // -- 14

    private static void hoursTaken() {
        Edge.term(14, "A DROP on a SIDE of a TOWER at a STOP, from an HOUR of a DAY on, by two of the PEOPLE, takes FLOORS / rate "
            + "HOURS (of a rest one more).");
        for (int floors = 1; floors <= 12; floors++) {
            for (int rate = 1; rate <= 12; rate++) {
                int f = floors;
                int hours = floors / rate + (floors % rate > 0 ? 1 : 0);
                MenOnCradles x = Start.NEW.then(y -> y.tower(0, f, 1), y -> y.elder(9, true), y -> y.drill(9, 0), y -> y.drill(0, 0),
                    y -> y.leave(0, 0, 0, 23)).ruled("rate " + rate + ";price hours;").make();
                Edge.is("it ends with hour 23", 0, x.why(0, 3, 0, 0, 24 - hours, 0, 9));
                Edge.is("it is made", 0, x.drop(0, 3, 0, 0, 0, 0, 9));
                Edge.is(floors + " floors by " + rate, hours, x.made(0, 5));
                Edge.is("as the rule knows", hours, x.made(0, 8));
                Edge.is("still in its last hour", 5, x.why(0, 3, 0, 0, hours - 1, 0, 9));
                Edge.is("not behind it", hours + hours > 24 ? 4 : 0, x.why(0, 3, 0, 0, hours, 0, 9));
            }
        }
    }

    /**
     * A drop of two hours, 11 and 12 (23 and 24 with fault 4), with the faults that the bits tell, 1 the lowest.
     * The others aloft are in 10 and 11 (22 and 23).
     */
    private static Start faulty(int bits) {
        int aloft = has(bits, 4) ? 22 : 10;
        List<Start.Step> steps = new ArrayList<>();
        for (int p = 0; p < 5; p++) { int who = p; if (p != 1 || !has(bits, 7)) steps.add(x -> x.drill(who, 5)); }
        steps.add(x -> x.leave(1, 5, 0, 23));
        steps.add(x -> x.leave(0, 5, aloft, aloft + 1));
        if (!has(bits, 8)) steps.add(x -> x.leave(0, 5, 0, 23));
        if (has(bits, 5)) steps.add(x -> x.drop(1, 0, 0, 5, aloft, 4, 0));
        if (has(bits, 6)) steps.add(x -> x.drop(0, 1, 0, 5, aloft, 2, 3));
        if (has(bits, 1)) steps.add(x -> x.rail(0, 0, 0, false));
        if (has(bits, 2)) for (int f = 0; f < 8; f++) for (int c = 0; c < 2; c++) { int floor = f, column = c; steps.add(x -> x.block(0, 0, floor, column, true)); }
        if (has(bits, 3)) steps.add(x -> x.elder(0, false));
        if (has(bits, 13)) steps.add(x -> x.film(0, 0, 5, 5, 0, 23));
        String rule = (has(bits, 9) ? "stop when side=0;" : "") + (has(bits, 10) ? "quiet when side=0;" : "")
            + (has(bits, 11) ? "wear 1001;" : "") + (has(bits, 12) ? "keys;" : "");
        return Start.NEW.then(x -> x.tower(0, 8, 3), x -> x.tower(1, 8, 3), x -> x.elder(0, true), x -> x.elder(2, true))
            .then(steps.toArray(new Start.Step[0])).ruled(rule);
    }

    private static boolean has(int bits, int fault) { return (bits >> fault - 1 & 1) == 1; }

    private static void firstThatHolds() {
        Edge.term(14, "WHY it may not be, the first that holds:");
        for (int bits = 0; bits < 1 << 13; bits++) {
            MenOnCradles x = faulty(bits).make();
            int first = bits == 0 ? 0 : Integer.numberOfTrailingZeros(bits) + 1;
            int hour = has(bits, 4) ? 23 : 11;
            Edge.is("faults as bits " + bits, first, x.why(0, 0, 0, 5, hour, 0, 1));
        }
    }

    /** A fault alone: WHY is it, and no drop is made and nothing changed. */
    private static void alone(int fault) {
        Start s = faulty(1 << fault - 1);
        int hour = fault == 4 ? 23 : 11;
        Edge.is("alone", fault, s.make().why(0, 0, 0, 5, hour, 0, 1));
        Edge.refusedNone("a drop with it", s, x -> x.drop(0, 0, 0, 5, hour, 0, 1));
        Edge.refused("WHY of it", s, x -> x.why(0, 0, 0, 5, hour, 0, 1) == 0);
    }

    private static void why1() {
        Edge.term(14, "1 the STOP is shut;");
        alone(1);
        MenOnCradles x = faulty(1).make();
        Edge.is("the stop beside", 0, x.why(0, 0, 1, 5, 11, 0, 1));
        x.rail(0, 0, 0, true);
        Edge.is("open again", 0, x.why(0, 0, 0, 5, 11, 0, 1));
    }

    private static void why2() {
        Edge.term(14, "2 it REACHES no PANE;");
        alone(2);
        MenOnCradles x = faulty(2).make();
        Edge.is("the stop beside reaches column 2", 0, x.why(0, 0, 1, 5, 11, 0, 1));
        x.block(0, 0, 7, 1, false);
        Edge.is("just one pane", 0, x.why(0, 0, 0, 5, 11, 0, 1));
        x.nest(0, 0, 7, 1, 5, 5);
        Edge.is("it has a nest", 2, x.why(0, 0, 0, 5, 11, 0, 1));
    }

    private static void why3() {
        Edge.term(14, "3 neither is an elder, or both are the same;");
        alone(3);
        MenOnCradles x = faulty(0).make();
        Edge.is("the first is", 0, x.why(0, 0, 0, 5, 11, 0, 1));
        Edge.is("the second is", 0, x.why(0, 0, 0, 5, 11, 1, 0));
        Edge.is("both are", 0, x.why(0, 0, 0, 5, 11, 0, 2));
        Edge.is("neither is", 3, x.why(0, 0, 0, 5, 11, 1, 3));
        Edge.is("an elder with himself", 3, x.why(0, 0, 0, 5, 11, 0, 0));
        Edge.is("another with himself", 3, x.why(0, 0, 0, 5, 11, 1, 1));
        Edge.refusedNone("a drop of an elder with himself", faulty(0), y -> y.drop(0, 0, 0, 5, 11, 0, 0));
    }

    private static void why4() {
        Edge.term(14, "4 it would last beyond HOUR 23;");
        alone(4);
        for (int hours = 1; hours <= 8; hours *= 2) {
            MenOnCradles x = faulty(0).ruled("rate " + 8 / hours + ";").make();
            Edge.is(hours + " hours, the last is 23", 0, x.why(0, 0, 0, 5, 24 - hours, 0, 1));
            if (hours > 1) Edge.is(hours + " hours, one too many", 4, x.why(0, 0, 0, 5, 25 - hours, 0, 1));
            Edge.is("from hour 0", 0, x.why(0, 0, 0, 5, 0, 0, 1));
            Edge.is("at hour 23", hours == 1 ? 0 : 4, x.why(0, 0, 0, 5, 23, 0, 1));
        }
    }

    /** Tower 5, three hours from 10 on, by 0 and 1; 2 is an elder too. */
    private static Start three() {
        return Start.READY.then(x -> x.elder(2, true), x -> x.drop(5, 0, 0, 1, 10, 0, 1));
    }

    private static void why5() {
        Edge.term(14, "5 one of them is in another DROP in one of its HOURS;");
        alone(5);
        for (int p : Edge.ends(0, 1)) {
            MenOnCradles x = three().make();
            for (int h = 8; h <= 14; h++) {
                int due = h >= 10 && h <= 12 ? 5 : 0;
                Edge.is("at " + h + " first, " + p, due, x.why(0, 0, 0, 1, h, p, 2));
                Edge.is("at " + h + " second, " + p, due, x.why(0, 0, 0, 1, h, 2, p));
                Edge.is("at " + h + " neither", 0, x.why(0, 0, 0, 1, h, 2, 3));
            }
            for (int h = 7; h <= 13; h++) Edge.is("three hours from " + h, h >= 8 && h <= 12 ? 5 : 0, x.why(1, 0, 0, 1, h, p, 2));
            Edge.is("on the next day", 0, x.why(0, 0, 0, 2, 10, p, 2));
        }
    }

    private static void why6() {
        Edge.term(14, "6 the TOWER's CRADLE is;");
        alone(6);
        MenOnCradles x = three().make();
        for (int h = 6; h <= 14; h++) {
            Edge.is("three hours from " + h, h >= 8 && h <= 12 ? 6 : 0, x.why(5, 3, 9, 1, h, 2, 3));
            Edge.is("another tower's", 0, x.why(1, 0, 0, 1, h, 2, 3));
        }
    }

    private static void why7() {
        Edge.term(14, "7 one of them was not DRILLED on this DAY or in the drill days ahead of it;");
        alone(7);
        for (int drill : new int[] {1, 30, 99}) {
            for (int gap : new int[] {-1, 0, 1, drill - 1, drill, drill + 1, 99}) {
                int day = Math.max(0, gap);
                if (day > 99) continue;
                int drilled = day - gap;
                int due = gap >= 0 && gap <= drill ? 0 : 7;
                Start s = Start.READY.then(x -> x.leave(0, day, 8, 8), x -> x.drill(0, day), x -> x.drill(1, day)).ruled("drill " + drill + ";");
                MenOnCradles x = s.then(y -> y.drill(0, drilled)).make();
                Edge.is("drill " + drill + ", the elder " + gap + " days ahead", due, x.why(0, 0, 0, day, 8, 0, 1));
                MenOnCradles z = s.then(y -> y.drill(1, drilled)).make();
                Edge.is("drill " + drill + ", the other " + gap + " days ahead", due, z.why(0, 0, 0, day, 8, 0, 1));
            }
        }
        MenOnCradles x = Start.READY.make();
        Edge.is("never drilled", 7, x.why(0, 0, 0, 1, 8, 0, 9));
        Edge.is("never drilled, first", 7, x.why(0, 0, 0, 1, 8, 9, 0));
    }

    private static void why8() {
        Edge.term(14, "8 in one of its HOURS there is no LEAVE;");
        alone(8);
        Start drilled = Start.READY.then(x -> x.drill(0, 9), x -> x.drill(1, 9));
        for (int without = 9; without <= 13; without++) {
            Start s = drilled;
            for (int h = 8; h <= 14; h++) { int hour = h; if (h != without) s = s.then(x -> x.leave(5, 9, hour, hour)); }
            MenOnCradles x = s.make();
            Edge.is("hours 10 to 12, none in " + without, without >= 10 && without <= 12 ? 8 : 0, x.why(5, 0, 0, 9, 10, 0, 1));
        }
        MenOnCradles x = drilled.then(y -> y.leave(5, 9, 10, 11), y -> y.leave(5, 9, 12, 12)).make();
        Edge.is("two leaves in a row", 0, x.why(5, 0, 0, 9, 10, 0, 1));
        Edge.is("from an hour ahead", 8, x.why(5, 0, 0, 9, 9, 0, 1));
        Edge.is("an hour behind", 8, x.why(5, 0, 0, 9, 11, 0, 1));
        Edge.is("on another day", 8, x.why(5, 0, 0, 10, 10, 0, 1));
        Edge.is("on another roof", 8, x.why(1, 0, 0, 9, 10, 0, 1));
    }

    private static void why9() {
        Edge.term(14, "9 it is STOPPED: in one of its HOURS a stop's E is not 0;");
        alone(9);
        MenOnCradles x = Start.READY.ruled("stop when hour=10;").make();
        for (int h = 6; h <= 12; h++) Edge.is("three hours from " + h, h >= 8 && h <= 10 ? 9 : 0, x.why(5, 0, 0, 1, h, 0, 1));
        for (String e : new String[] {"1", "0-1", "9999", "day", "floors", "panes", "age"}) {
            Edge.is("stop when " + e, 9, Start.READY.ruled("stop when " + e + ";").make().why(5, 0, 0, 1, 8, 0, 1));
        }
        for (String e : new String[] {"0", "1-1", "worn", "wind", "side"}) {
            Edge.is("stop when " + e, 0, Start.READY.ruled("stop when " + e + ";").make().why(5, 0, 0, 1, 8, 0, 1));
        }
    }

    private static void why10() {
        Edge.term(14, "10 quiet: a quiet's;");
        alone(10);
        MenOnCradles x = Start.READY.ruled("quiet when hour=10;").make();
        for (int h = 6; h <= 12; h++) Edge.is("three hours from " + h, h >= 8 && h <= 10 ? 10 : 0, x.why(5, 0, 0, 1, h, 0, 1));
        Edge.is("a stop in a later hour is ahead of it", 9, Start.READY.ruled("quiet when hour=8;stop when hour=10;").make().why(5, 0, 0, 1, 8, 0, 1));
    }

    private static void why11() {
        Edge.term(14, "11 its wear (0 without one, 0 if it is below) would bring WORN above LIFE;");
        alone(11);
        for (int life : new int[] {1, 2, 1000, 9999}) {
            for (int wear : new int[] {life - 1, life, life + 1}) {
                String e = wear > 9999 ? "9999+1" : "" + wear;
                MenOnCradles x = Start.READY.then(y -> y.cradle(0, 2, life)).ruled("wear " + e + ";").make();
                Edge.is("life " + life + ", wear " + wear, wear > life ? 11 : 0, x.why(0, 0, 0, 1, 8, 0, 1));
            }
        }
        Start worn = Start.READY.then(y -> y.cradle(0, 2, 10)).ruled("wear 10;").then(y -> y.drop(0, 0, 0, 1, 8, 0, 1));
        for (String wear : new String[] {"", "wear 0;", "wear 0-1;", "wear 0-9999;", "wear 1-9999*9999*21;"}) {
            Edge.is("worn to its life, [" + wear + "]", 0, worn.ruled(wear).make().why(0, 0, 0, 1, 9, 0, 1));
        }
        for (String wear : new String[] {"wear 1;", "wear 9999;", "wear 9999*9999*21+9999*4790+8416;"}) {
            Edge.is("worn to its life, [" + wear + "]", 11, worn.ruled(wear).make().why(0, 0, 0, 1, 9, 0, 1));
        }
        for (String wear : new String[] {"", "wear 0;", "wear 0-1;", "wear 1-9999*9999*21;"}) {
            MenOnCradles x = worn.ruled(wear).then(y -> y.drop(0, 0, 0, 1, 9, 0, 1)).make();
            Edge.is("a drop with [" + wear + "] wears", 0, x.made(1, 7));
            Edge.is("the rope stands no more by it", 0, x.stands(0, 1));
            Edge.is("nor less", 11, Texts.rule(x, "wear 1;") + x.why(0, 0, 0, 1, 10, 0, 1));
        }
        Edge.is("the other tower's is new", 0, worn.make().why(1, 0, 0, 1, 9, 0, 1));
    }

    private static void why12() {
        Edge.term(14, "12 the RULE has keys, and in one of its HOURS neither of the two HOLDS the TOWER's KEY;");
        alone(12);
        Start taken = Start.READY.ruled("keys;").then(x -> x.key(5, 1, 1, 10, true));
        MenOnCradles x = taken.make();
        Edge.is("from an hour ahead", 12, x.why(5, 0, 0, 1, 9, 0, 1));
        Edge.is("from its hour on", 0, x.why(5, 0, 0, 1, 10, 0, 1));
        Edge.is("the other way round", 0, x.why(5, 0, 0, 1, 10, 1, 0));
        Edge.is("by others", 12, x.why(5, 0, 0, 1, 10, 0, 2));
        Edge.is("another tower's", 12, x.why(1, 0, 0, 1, 10, 0, 1));
        x.key(5, 1, 1, 13, false);
        Edge.is("given back right behind its last hour", 0, x.why(5, 0, 0, 1, 10, 0, 1));
        Edge.is("given back in its last hour", 12, x.why(5, 0, 0, 1, 11, 0, 1));
        MenOnCradles y = taken.then(v -> v.key(5, 1, 1, 11, false), v -> v.key(5, 0, 1, 11, true)).make();
        Edge.is("from hand to hand", 0, y.why(5, 0, 0, 1, 10, 0, 1));
        Edge.is("whoever is told first", 0, y.why(5, 0, 0, 1, 10, 1, 0));
        Edge.is("one of them alone", 12, y.why(5, 0, 0, 1, 10, 0, 2));
        MenOnCradles z = taken.then(v -> v.key(5, 1, 1, 11, false), v -> v.key(5, 3, 1, 11, true), v -> v.key(5, 3, 1, 12, false),
            v -> v.key(5, 0, 1, 12, true)).make();
        Edge.is("another has it in its second hour", 12, z.why(5, 0, 0, 1, 10, 0, 1));
        z.rule();
        Edge.is("no keys in the rule", 0, z.why(5, 0, 0, 1, 10, 0, 1));
    }

    private static void why13() {
        Edge.term(14, "13 one of its HOURS is a FILM's; else 0.");
        alone(13);
        MenOnCradles x = Start.READY.then(y -> y.film(5, 1, 1, 1, 10, 11)).make();
        for (int h = 6; h <= 14; h++) {
            Edge.is("three hours from " + h, h >= 8 && h <= 11 ? 13 : 0, x.why(5, 1, 0, 1, h, 0, 1));
            Edge.is("another side", 0, x.why(5, 0, 0, 1, h, 0, 1));
            Edge.is("another tower", 0, x.why(1, 1, 0, 1, h, 0, 1));
        }
    }

    private static void firstHour() {
        Edge.term(14, "For wear, price, water it is asked in its first HOUR.");
        MenOnCradles x = Start.READY.times(3, (y, i) -> y.wind(2, 1, 10 + i, 20 + i))
            .ruled("wear hour*10+wind;price hour*100+wind;water wind;").make();
        x.drop(5, 2, 0, 1, 10, 0, 1);
        Edge.is("wear", 120, x.made(0, 7));
        Edge.is("price", 1020, x.made(0, 8));
        Edge.is("water", 20, x.made(0, 9));
        Edge.is("the rope's life by its first hour", 0, Start.READY.ruled("wear (8<hour)*1001;").make().why(5, 0, 0, 1, 8, 0, 1));
        Edge.is("above it by its first hour", 11, Start.READY.ruled("wear (hour<9)*1001;").make().why(5, 0, 0, 1, 8, 0, 1));
    }

    private static void whyOthers() {
        Edge.promise(14, "WHY a DROP may not be (0: it may); NONE: others, a DAY ahead of the last DROP's, 60 are there.");
        Edge.is("it may", 0, Start.READY.make().why(5, 3, 9, 1, 0, 0, 3));
        Edge.refused("WHY where it may", Start.BUSY, x -> x.why(0, 1, 0, 4, 18, 0, 1) != 0);
        for (int t : new int[] {-1, 2, 4, 6, Edge.MIN, Edge.MAX}) othersAt(t, 0, 0, 4, 9, 0, 1);
        for (int s : Edge.beyond(0, 3)) othersAt(0, s, 0, 4, 9, 0, 1);
        for (int c : Edge.beyond(0, 4)) othersAt(0, 0, c, 4, 9, 0, 1);
        for (int d : Edge.beyond(0, 99)) othersAt(0, 0, 0, d, 9, 0, 1);
        for (int h : Edge.beyond(0, 23)) othersAt(0, 0, 0, 4, h, 0, 1);
        for (int p : Edge.beyond(0, 9)) {
            othersAt(0, 0, 0, 4, 9, p, 0);
            othersAt(0, 0, 0, 4, 9, 0, p);
            othersAt(0, 0, 0, 4, 9, p, p);
        }
        othersAt(0, 0, 0, 2, 11, 0, 1);
        othersAt(0, 0, 0, 0, 11, 0, 1);
        Edge.refusedNone("60 are there", Start.DROPS59.then(x -> x.drop(0, 1, 2, 6, 17, 0, 1)), x -> x.why(0, 0, 0, 6, 17, 0, 1));
        Edge.is("59 are", 0, Start.DROPS59.make().why(0, 0, 0, 6, 17, 0, 1));
    }

    private static void othersAt(int t, int s, int c, int d, int h, int a, int b) {
        String args = "(" + t + ", " + s + ", " + c + ", " + d + ", " + h + ", " + a + ", " + b + ")";
        Edge.refusedNone("why" + args, Start.BUSY, x -> x.why(t, s, c, d, h, a, b));
        Edge.refusedNone("drop" + args, Start.BUSY, x -> x.drop(t, s, c, d, h, a, b));
    }

    // -- 15

    private static void orderOfDays() {
        Edge.term(15, "are made in order of DAYS (none ahead of the DAY of the one before):");
        Edge.promise(15, "The DROP is made if WHY is 0: its number; NONE: not.");
        Start s = Start.READY.then(x -> x.drop(0, 0, 0, 3, 12, 0, 1));
        MenOnCradles x = s.make();
        Edge.is("on the same day, an hour ahead", 1, x.drop(0, 0, 0, 3, 11, 0, 1));
        Edge.is("on the same day, an hour behind", 2, x.drop(0, 0, 0, 3, 13, 0, 1));
        Edge.is("on the next day", 3, x.drop(0, 0, 0, 4, 8, 0, 1));
        Edge.none("a day ahead then", x.drop(0, 0, 0, 3, 14, 0, 1));
        Edge.is("four", 4, x.count(1));
        Edge.refusedNone("a day ahead", s, y -> y.drop(0, 0, 0, 2, 12, 0, 1));
        Edge.refusedNone("day 0", s, y -> y.drop(0, 0, 0, 0, 12, 0, 1));
        Edge.refusedNone("a day ahead, of another tower and gang", s, y -> y.drop(1, 0, 0, 2, 12, 0, 2));
        MenOnCradles first = Start.READY.then(y -> y.leave(0, 0, 0, 0), y -> y.leave(0, 99, 23, 23)).ruled("drill 99;").make();
        Edge.is("day 0, hour 0", 0, first.drop(0, 0, 0, 0, 0, 0, 1));
        Edge.is("day 99, hour 23", 1, first.drop(0, 0, 0, 99, 23, 0, 1));
    }

    private static void drops60() {
        Edge.term(15, "DROPS, 60 at most,");
        MenOnCradles x = Start.DROPS59.make();
        Edge.is("59 are there", 59, x.count(1));
        Edge.is("the 60th", 59, x.drop(0, 1, 2, 6, 17, 0, 1));
        Edge.is("60 are there", 60, x.count(1));
        Edge.is("its day", 6, x.made(59, 3));
        Edge.is("its hour", 17, x.made(59, 4));
        Start full = Start.DROPS59.then(y -> y.drop(0, 1, 2, 6, 17, 0, 1));
        Edge.refusedNone("a 61st", full, y -> y.drop(5, 0, 0, 99, 23, 0, 1));
        Edge.refusedNone("a 61st that might be", full.then(y -> y.leave(0, 7, 0, 23)), y -> y.drop(0, 0, 0, 7, 8, 0, 1));
        Edge.refusedNoSuch("drop 60", full, y -> y.made(60, 0));
        MenOnCradles back = Start.READY.then(y -> y.mark(0, false)).make();
        Edge.is("room by going back", 0, back.drop(0, 0, 0, 1, 8, 0, 1));
        MenOnCradles room = full.then(y -> y.mark(0, false)).make();
        Edge.yes("back to 60", room.mark(0, true));
        Edge.none("is full, too", room.drop(0, 0, 0, 6, 17, 0, 1));
    }

    private static void washes() {
        Edge.term(15, "all PANES that it REACHES are washed on this DAY; WORN grows;");
        MenOnCradles x = Start.READY.then(y -> y.block(5, 3, 0, 9, true), y -> y.nest(5, 3, 11, 8, 1, 1)).ruled("wear 999;").make();
        Edge.is("a drop", 0, x.drop(5, 3, 8, 1, 0, 0, 1));
        for (int f = 0; f < 12; f++) for (int c = 7; c < 10; c++) {
            boolean reached = c > 7 && !(f == 0 && c == 9) && !(f == 11 && c == 8);
            Edge.is("pane " + f + " " + c, reached ? 1 : -1, x.washed(5, 3, f, c));
        }
        Edge.is("worn", 1, x.stands(5, 1));
        Edge.is("no more than that", 0, x.stands(5, 2));
        Edge.is("other ropes are not", 1000, x.stands(0, 1));
    }

    private static void kept() {
        Edge.term(15, "its price and water (0 without, 0 if below) are kept, as is what it REACHED.");
        for (String rule : new String[] {"", "price 0;water 0;", "price 0-1;water 0-1;", "price 1-9999*9999*21;water 1-9999*9999*21;"}) {
            MenOnCradles x = Start.READY.ruled(rule).make();
            x.drop(0, 0, 0, 1, 8, 0, 1);
            Edge.is("price of [" + rule + "]", 0, x.made(0, 8));
            Edge.is("water of [" + rule + "]", 0, x.made(0, 9));
            Edge.is("its bill", 0, x.bill(0, 0, 99, 0) + x.bill(0, 0, 99, 1));
        }
        MenOnCradles x = Start.READY.ruled("price 1;water 9999*9999*21+9999*4790+8416;").make();
        x.drop(0, 0, 0, 1, 8, 0, 1);
        Texts.rule(x, "price 7;water 8;");
        x.block(0, 0, 0, 0, true);
        x.nest(0, 0, 1, 0, 1, 1);
        x.cradle(0, 1, 1);
        x.rail(0, 0, 0, false);
        Edge.is("price", 1, x.made(0, 8));
        Edge.is("water", Edge.MAX, x.made(0, 9));
        Edge.is("panes", 8, x.made(0, 6));
        Edge.is("washed, blocked since", 1, x.washed(0, 0, 0, 0));
        Edge.is("washed, nested since", 1, x.washed(0, 0, 1, 0));
        Edge.is("washed, beyond the cradle since", 1, x.washed(0, 0, 3, 1));
        Edge.is("reached, blocked since", 1, x.scratch(0, 0, 0, 0, 0, 1, 1));
    }

    // -- 16

    private static void made() {
        Edge.promise(16, "Of a DROP, what 0: TOWER, 1: SIDE, 2: STOP, 3: DAY, 4: HOUR, 5: HOURS, 6: PANES, 7: wear, 8: price, 9: water, "
            + "10: AGAINST 1 or 0, 11: RESCUE. NoSuchElementException: none such.");
        MenOnCradles x = Start.READY.ruled("wear 3;price 4;water 5;rate 5;").make();
        x.drop(5, 3, 9, 1, 21, 0, 1);
        Texts.rule(x, "stop when hour=23;");
        int[] due = {5, 3, 9, 1, 21, 3, 12, 3, 4, 5, 1, 7};
        for (int what = 0; what < 12; what++) Edge.is("made(0, " + what + ")", due[what], x.made(0, what));
        Edge.refusedNoSuch("none is made", Start.READY, y -> y.made(0, 0));
        for (int i : Edge.beyond(0, 6)) Edge.refusedNoSuch("drop " + i + " of seven", Start.BUSY, y -> y.made(i, 0));
        for (int what : Edge.beyond(0, 11)) Edge.refusedNoSuch("what " + what, Start.BUSY, y -> y.made(0, what));
        Edge.is("the last of seven", 3, Start.BUSY.make().made(6, 3));
        Edge.refusedNoSuch("a drop that is only asked about", Start.READY.then(y -> y.why(0, 0, 0, 1, 8, 0, 1)), y -> y.made(0, 0));
        Edge.refusedNoSuch("a drop that is gone", Start.READY.then(y -> y.mark(0, false), y -> y.drop(0, 0, 0, 1, 8, 0, 1),
            y -> y.mark(0, true)), y -> y.made(0, 0));
    }

    private static void against() {
        Edge.term(16, "AGAINST is a DROP that is STOPPED by the RULE and the WIND as they are told now "
            + "(panes, hours, worn, age as they were ahead of it).");
        Start s = Start.READY.ruled("wear 3;").then(x -> x.drop(5, 0, 0, 1, 8, 0, 1), x -> x.drop(5, 0, 1, 1, 11, 0, 1));
        for (int h = 7; h <= 14; h++) {
            int hour = h;
            MenOnCradles x = s.ruled("stop when 50<wind;").then(y -> y.wind(0, 1, hour, 51)).make();
            Edge.is("wind at " + h + ", the first", h >= 8 && h <= 10 ? 1 : 0, x.made(0, 10));
            Edge.is("wind at " + h + ", the second", h >= 11 && h <= 13 ? 1 : 0, x.made(1, 10));
            x.wind(0, 1, hour, 50);
            Edge.is("told again, less", 0, x.against(-1));
        }
        MenOnCradles panes = s.then(x -> x.block(5, 0, 0, 1, true)).ruled("stop when panes=24;").make();
        Edge.is("panes as they were", 2, panes.against(0));
        MenOnCradles hours = s.ruled("rate 1;stop when hours=3;").make();
        Edge.is("hours as they were", 2, hours.against(0));
        MenOnCradles worn = s.ruled("stop when worn=0;").make();
        Edge.is("worn as it was, the first", 1, worn.made(0, 10));
        Edge.is("worn as it was, the second", 0, worn.made(1, 10));
        worn.cradle(5, 2, 9999);
        Edge.is("a new rope is none of theirs", 1, worn.against(0));
        MenOnCradles age = s.ruled("stop when age=99;").make();
        Edge.is("age as it was, both reached one never washed", 2, age.against(0));
        age.drop(5, 0, 0, 1, 20, 0, 1);
        Edge.is("age 0 is another", 2, age.against(0));
        Edge.is("a quiet is no stop", 0, s.ruled("quiet when 1;").make().against(0));
        Edge.is("no rule, no stop", 0, s.ruled("").make().against(0));
        Edge.is("a stop with any", 2, s.ruled("stop when 0;stop when 1;").make().against(0));
    }

    private static void hoursKept() {
        Edge.term(16, "HOURS, and the rate in them, are kept.");
        for (String rule : new String[] {"rate 1;", "rate 12;", ""}) {
            MenOnCradles x = Start.READY.ruled("rate 5;").then(y -> y.drop(5, 0, 0, 1, 8, 0, 1)).ruled(rule).make();
            Edge.is("hours", 3, x.made(0, 5));
            Edge.is("rescue by the rate", 7, x.made(0, 11));
            Edge.is("he is aloft in its last hour", 5, x.why(1, 0, 0, 1, 10, 0, 2));
            Edge.is("and free behind it", 0, x.why(1, 0, 0, 1, 11, 0, 2));
            x.complain(5, 0, 2, 1, 9);
            x.complain(5, 0, 1, 1, 9);
            Edge.is("floors 6 to 2 in its second hour", 1, x.ours(0, 0));
            Edge.is("not 1", 0, x.ours(1, 0));
        }
    }

    private static void rescue() {
        Edge.term(16, "RESCUE in a DROP: in its k-th HOUR (from 0) the CRADLE comes down from FLOORS - rate * k to that less rate "
            + "(0 at least): to the roof it is FLOORS less the lower one of these, to the ground the upper one; the lesser counts; "
            + "the greatest of its HOURS.");
        int[][] due = {{1, 1, 1}, {1, 12, 1}, {2, 1, 1}, {2, 2, 2}, {3, 1, 2}, {3, 2, 2}, {4, 4, 4}, {4, 3, 3}, {12, 1, 6}, {12, 4, 8},
            {12, 5, 7}, {12, 6, 6}, {12, 7, 7}, {12, 11, 11}, {12, 12, 12}, {11, 1, 6}, {11, 2, 6}, {5, 3, 3}, {10, 4, 6}};
        for (int[] d : due) {
            MenOnCradles x = Start.NEW.then(y -> y.tower(0, d[0], 1), y -> y.elder(0, true), y -> y.drill(0, 0), y -> y.drill(1, 0),
                y -> y.leave(0, 0, 0, 23)).ruled("rate " + d[1] + ";").make();
            x.drop(0, 0, 0, 0, 0, 0, 1);
            Edge.is(d[0] + " floors by " + d[1], d[2], x.made(0, 11));
        }
    }

    // -- 17 to 19

    private static void washed() {
        Edge.term(17, "washed last on a DAY or never.");
        Edge.promise(17, "The DAY on which a PANE was washed last; NONE: none such, never.");
        MenOnCradles x = Start.READY.then(y -> y.leave(0, 0, 0, 0), y -> y.leave(0, 99, 0, 0)).ruled("drill 99;").make();
        Edge.none("never", x.washed(0, 0, 0, 0));
        x.drop(0, 0, 0, 0, 0, 0, 1);
        Edge.is("on day 0", 0, x.washed(0, 0, 0, 0));
        x.drop(0, 0, 1, 1, 8, 0, 1);
        Edge.is("last", 1, x.washed(0, 0, 3, 1));
        Edge.is("not again", 0, x.washed(0, 0, 3, 0));
        x.drop(0, 0, 0, 99, 0, 0, 1);
        Edge.is("on day 99", 99, x.washed(0, 0, 0, 0));
        Edge.none("another side", x.washed(0, 1, 0, 0));
        Edge.none("another tower", x.washed(5, 0, 0, 0));
        for (int t : new int[] {-1, 2, 4, 6, Edge.MIN, Edge.MAX}) Edge.refusedNone("tower " + t, Start.BUSY, y -> y.washed(t, 0, 0, 0));
        for (int s : Edge.beyond(0, 3)) Edge.refusedNone("side " + s, Start.BUSY, y -> y.washed(0, s, 0, 0));
        for (int f : Edge.beyond(0, 3)) Edge.refusedNone("floor " + f, Start.BUSY, y -> y.washed(0, 0, f, 0));
        for (int c : Edge.beyond(0, 4)) Edge.refusedNone("column " + c, Start.BUSY, y -> y.washed(0, 0, 0, c));
    }

    private static void againstSides() {
        Edge.promise(18, "How many DROPS are AGAINST (side NONE: of all). NONE: no such SIDE.");
        MenOnCradles x = Start.READY.times(5, (y, i) -> y.drop(0, i % 4, 0, 1, 8 + i, 0, 1)).ruled("stop when 1;").make();
        Edge.is("of all", 5, x.against(MenOnCradles.NONE));
        int[] due = {2, 1, 1, 1};
        for (int s = 0; s < 4; s++) Edge.is("side " + s, due[s], x.against(s));
        Edge.is("no drops", 0, Start.READY.ruled("stop when 1;").make().against(-1));
        Edge.is("60 of 60", 60, Start.DROPS59.then(y -> y.drop(0, 1, 2, 6, 17, 0, 1)).ruled("stop when 1;").make().against(1));
        for (int s : new int[] {-2, 4, -256, 256, Edge.MIN, Edge.MAX}) Edge.refusedNone("side " + s, Start.BUSY, y -> y.against(s));
    }

    private static void lost() {
        Edge.term(19, "LOST on a SIDE of a TOWER on a DAY: HOURS with LEAVE in which a DROP of one HOUR there would be STOPPED "
            + "(panes, age 0, hours 1).");
        Edge.promise(19, "LOST; NONE: others.");
        Start all = Start.READY.then(x -> x.leave(5, 0, 0, 23), x -> x.leave(5, 99, 0, 23));
        for (int side : Edge.ends(0, 3)) for (int day : Edge.ends(0, 99)) {
            Edge.is("all 24", 24, all.ruled("stop when 1;").make().lost(5, side, day));
            Edge.is("by its side and day", 24, all.ruled("stop when side=" + side + " and day=" + day + " and tower=5 and floors=12;").make().lost(5, side, day));
            Edge.is("none", 0, all.ruled("stop when 0;").make().lost(5, side, day));
        }
        Edge.is("no leave", 0, all.ruled("stop when 1;").make().lost(5, 0, 50));
        Edge.is("leave twice", 10, all.then(x -> x.leave(0, 1, 8, 17)).ruled("stop when 1;").make().lost(0, 0, 1));
        Edge.is("panes, age 0, hours 1", 10, all.ruled("stop when panes=0 and age=0 and hours=1;").make().lost(0, 0, 1));
        Edge.is("a quiet is none", 0, all.ruled("quiet when 1;").make().lost(0, 0, 1));
        MenOnCradles asked = all.ruled("wear 7;").then(x -> x.drop(5, 0, 0, 1, 8, 0, 1)).ruled("stop when panes=0 and age=0 and hours=1 and worn=7 and floors=12;").make();
        Edge.is("none of a drop is left over", 24, asked.why(1, 0, 0, 1, 20, 0, 1) == 0 ? asked.lost(5, 0, 1) : -9);
        Edge.is("each hour by its own wind", 1, all.then(x -> x.wind(0, 1, 17, 9)).ruled("stop when wind;").make().lost(0, 0, 1));
        Edge.is("worn as now", 10, all.ruled("wear 7;").then(x -> x.drop(0, 0, 0, 1, 8, 0, 1)).ruled("stop when worn=7;").make().lost(0, 0, 1));
        Edge.is("a drop is no matter", 10, all.then(x -> x.drop(0, 0, 0, 1, 8, 0, 1)).ruled("stop when 1;").make().lost(0, 0, 1));
        for (int t : new int[] {-1, 2, 4, 6, Edge.MIN, Edge.MAX}) Edge.refusedNone("tower " + t, Start.BUSY, x -> x.lost(t, 0, 1));
        for (int s : Edge.beyond(0, 3)) Edge.refusedNone("side " + s, Start.BUSY, x -> x.lost(0, s, 1));
        for (int d : Edge.beyond(0, 99)) Edge.refusedNone("day " + d, Start.BUSY, x -> x.lost(0, 0, d));
    }
}
