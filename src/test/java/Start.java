import java.util.ArrayList;
import java.util.List;

/** A row of calls on a new object, so that as many objects of one state can be made as a test needs. */
final class Start {
    interface Step { void on(MenOnCradles x); }

    static final Start NEW = new Start();
    static final Start READY = ready();
    static final Start BUSY = busy();

    /** One more DROP can be made then, on day 6 from hour 17 on, on tower 0. */
    static final Start DROPS59 = READY.then(x -> x.leave(0, 6, 8, 17))
        .times(59, (x, i) -> x.drop(0, 1, 2, 1 + i / 10, 8 + i % 10, 0, 1));

    private final List<Step> steps = new ArrayList<>();

    private Start() { }

    Start then(Step... more) {
        Start s = new Start();
        s.steps.addAll(steps);
        for (Step step : more) s.steps.add(step);
        return s;
    }

    /** As many steps, the place of each told to it. */
    Start times(int n, java.util.function.ObjIntConsumer<MenOnCradles> each) {
        Start s = then();
        for (int i = 0; i < n; i++) {
            int at = i;
            s.steps.add(x -> each.accept(x, at));
        }
        return s;
    }

    /** A text on the tape, a step for each 24 signs. */
    Start fed(String text) {
        Start s = then();
        for (int i = 0; i < text.length(); i += 24) {
            int at = i;
            s.steps.add(x -> x.feed(Texts.pack(text, at), Texts.pack(text, at + 8), Texts.pack(text, at + 16)));
        }
        return s;
    }

    Start ruled(String text) { return fed(text).then(x -> x.rule()); }

    int size() { return steps.size(); }

    MenOnCradles make() {
        MenOnCradles x = new MenOnCradles();
        for (Step s : steps) s.on(x);
        return x;
    }

    /**
     * Tower 0 with 4 floors and 5 columns, tower 1 with 10 and 3, tower 5 with 12 and 10; person 0 an elder; 0 to 3
     * drilled on day 0; leave for tower 0 on days 1 to 5 from 8 to 17, for tower 1 on days 1 and 2 all day, for tower 5
     * on day 1 all day.
     */
    private static Start ready() {
        return NEW.then(x -> x.tower(0, 4, 5), x -> x.tower(1, 10, 3), x -> x.tower(5, 12, 10), x -> x.elder(0, true))
            .times(4, (x, p) -> x.drill(p, 0)).times(5, (x, d) -> x.leave(0, d + 1, 8, 17))
            .then(x -> x.leave(1, 1, 0, 23), x -> x.leave(1, 2, 0, 23), x -> x.leave(5, 1, 0, 23));
    }

    /** Something of everything: what a refused call might disturb. */
    private static Start busy() {
        return NEW.then(x -> x.tower(0, 4, 5), x -> x.tower(1, 10, 3), x -> x.tower(5, 12, 10),
                x -> x.elder(0, true), x -> x.elder(2, true))
            .times(6, (x, p) -> x.drill(p, p % 2)).times(6, (x, d) -> x.leave(0, d + 1, 6, 20))
            .times(4, (x, d) -> x.leave(1, d + 1, 0, 23)).times(3, (x, d) -> x.leave(5, d + 1, 8, 18))
            .then(x -> x.block(0, 0, 3, 1, true), x -> x.block(1, 2, 9, 0, true), x -> x.block(5, 3, 0, 9, true),
                x -> x.nest(0, 0, 1, 2, 2, 4), x -> x.nest(5, 0, 11, 0, 0, 99),
                x -> x.rail(0, 1, 4, false), x -> x.rail(5, 2, 9, false), x -> x.cradle(0, 3, 500), x -> x.cradle(5, 4, 9999),
                x -> x.wind(0, 2, 9, 45), x -> x.wind(1, 2, 10, 30), x -> x.wind(3, 99, 23, 99), x -> x.wind(0, 1, 8, 12))
            .ruled("stop when 40<wind;quiet when week=3 and hour<10;wear 3+hours;price 10*hours+age;water panes*3+1;"
                + "rate 5;drill 40;keys;")
            .then(x -> x.key(0, 0, 1, 6, true), x -> x.key(1, 2, 1, 6, true), x -> x.key(5, 0, 1, 7, true),
                x -> x.drop(0, 0, 0, 1, 8, 0, 1), x -> x.drop(1, 2, 0, 1, 8, 2, 3), x -> x.drop(5, 0, 0, 1, 10, 0, 1),
                x -> x.mark(0, false), x -> x.drop(0, 0, 1, 2, 8, 0, 1), x -> x.drop(1, 1, 1, 2, 12, 2, 1),
                x -> x.mark(2, false), x -> x.drop(0, 1, 0, 2, 14, 0, 3), x -> x.drop(0, 0, 0, 3, 11, 0, 1),
                x -> x.key(1, 2, 3, 5, false), x -> x.wind(1, 2, 13, 41))
            .then(x -> x.want(0, 10), x -> x.want(3, 7), x -> x.want(0, 5), x -> x.want(2, 7), x -> x.chance(4, 3, 9),
                x -> x.chance(2, 0, 0), x -> x.cap(1), x -> x.came(1, 0, false), x -> x.came(4, 3, false),
                x -> x.match(0, 1, 4), x -> x.match(2, 1, 6), x -> x.match(2, 3, 1), x -> x.match(0, 9, 3),
                x -> x.offer(0, 30, 33, 2), x -> x.offer(3, 20, 2, 1), x -> x.offer(7, 60, 63, 3),
                x -> x.away(0, 0, true), x -> x.away(9, 19, true))
            .then(x -> x.film(0, 0, 3, 3, 11, 12), x -> x.film(1, 3, 0, 99, 0, 23),
                x -> x.complain(0, 0, 2, 1, 8), x -> x.complain(1, 2, 9, 1, 8), x -> x.complain(5, 0, 0, 1, 12),
                x -> x.complain(0, 0, 4 - 1, 4, 9),
                x -> x.row(0, 1, 0, 3, 13, 0, 1), x -> x.row(0, 1, 1, 3, 14, 0, 1), x -> x.row(1, 0, 0, 3, 20, 0, 5))
            .fed("wear 1;stop w");
    }
}
