import java.util.Arrays;
import java.util.NoSuchElementException;

/** Towers whose glass is washed in drops, as ../shared/DOC.md tells it; the words here are its terms. */
public final class MenOnCradles {
    public static final int NONE = -1;

    private static final int TOWERS = 6;
    private static final int SIDES = 4;
    private static final int FLOORS = 12;
    private static final int COLUMNS = 10;
    private static final int DAYS = 100;
    private static final int HOURS = 24;
    private static final int PEOPLE = 10;
    private static final int WEEKDAYS = 7;
    private static final int BANDS = 10;
    private static final int DROPS = 60;
    private static final int ROW = 12;
    private static final int ROW_PARTS = 7;
    private static final int WIDEST = 4;
    private static final int LIFE_MOST = 9999;
    private static final int OLDEST = 99;
    private static final int ONE_COLUMN = (1 << FLOORS) - 1;

    private final Tower[] towers = new Tower[TOWERS];
    // The four sides' winds of an hour share one element, a byte each: a quarter of the room.
    private final int[] winds = new int[DAYS * HOURS];
    private final Spans nests = new Spans(20);
    private final Spans leaves = new Spans(60);
    private final Spans films = new Spans(12);
    private final Spans complaints = new Spans(40);
    private final People people = new People();
    private final Reader reader = new Reader();
    private final KeyBook keyBook = new KeyBook();
    private final Planner planner = new Planner();
    private final Shop shop = new Shop();
    private final Marks marks = new Marks();
    private final int[] facts = new int[Rule.FACTS];
    // What washed a pane last is read from the drops, so that going back is only to forget drops.
    private final Drop[] drops = new Drop[DROPS];
    private final int[] rowParts = new int[ROW * ROW_PARTS];
    // Two rules take turns: one in force, and one to be read into, so that a fault leaves the first as it is.
    private Rule inForce = new Rule();
    private Rule draft = new Rule();
    private int dropCount = 0;
    private int rowCount = 0;

    public MenOnCradles() {
        for (int i = 0; i < DROPS; i++) {
            drops[i] = new Drop();
        }
    }

    // ---- What is told of towers, weather and people

    public boolean tower(int tower, int floors, int columns) {
        if (!isBelow(tower, TOWERS) || towers[tower] != null) {
            return false;
        }
        if (!isWithin(floors, 1, FLOORS) || !isWithin(columns, 1, COLUMNS)) {
            return false;
        }
        towers[tower] = new Tower(floors, columns);
        return true;
    }

    public boolean block(int tower, int side, int floor, int column, boolean yes) {
        if (!isPane(tower, side, floor, column)) {
            return false;
        }
        towers[tower].setBlocked(side, floor, column, yes);
        return true;
    }

    public boolean nest(int tower, int side, int floor, int column, int from, int to) {
        if (!isPane(tower, side, floor, column) || !areDays(from, to)) {
            return false;
        }
        return nests.add(panePlace(tower, side, floor, column), from, to, 0, HOURS - 1);
    }

    public boolean rail(int tower, int side, int stop, boolean open) {
        if (!isStop(tower, side, stop)) {
            return false;
        }
        towers[tower].setOpen(side, stop, open);
        return true;
    }

    public boolean cradle(int tower, int width, int life) {
        if (!isTold(tower) || !isWithin(width, 1, WIDEST) || !isWithin(life, 1, LIFE_MOST)) {
            return false;
        }
        Tower t = towers[tower];
        t.width = width;
        t.life = life;
        t.worn = 0;
        return true;
    }

    public boolean wind(int side, int day, int hour, int speed) {
        if (!isSide(side) || !isDay(day) || !isHour(hour) || !isWithin(speed, 0, 99)) {
            return false;
        }
        int at = day * HOURS + hour;
        int shift = side * 8;
        winds[at] = (winds[at] & ~(127 << shift)) | (speed << shift);
        return true;
    }

    public boolean leave(int tower, int day, int from, int to) {
        if (!isTold(tower) || !isDay(day) || !areHours(from, to)) {
            return false;
        }
        return leaves.add(tower, day, day, from, to);
    }

    public boolean elder(int person, boolean yes) {
        if (!isPerson(person)) {
            return false;
        }
        people.setElder(person, yes);
        return true;
    }

    public boolean drill(int person, int day) {
        if (!isPerson(person) || !isDay(day)) {
            return false;
        }
        people.drilled[person] = day;
        return true;
    }

    // ---- The rule

    public int feed(long a, long b, long c) {
        reader.takeBytes(a);
        reader.takeBytes(b);
        reader.takeBytes(c);
        return reader.size;
    }

    public int rule() {
        int fault = reader.readInto(draft);
        if (fault == 0) {
            Rule before = inForce;
            inForce = draft;
            draft = before;
        }
        return fault;
    }

    // ---- Drops

    public int reach(int tower, int side, int stop, int day) {
        if (!isStop(tower, side, stop) || !isDay(day)) {
            return NONE;
        }
        return Long.bitCount(reachedPanes(tower, side, stop, day));
    }

    public int why(int tower, int side, int stop, int day, int hour, int a, int b) {
        return ask(tower, side, stop, day, hour, a, b);
    }

    public int drop(int tower, int side, int stop, int day, int hour, int a, int b) {
        if (ask(tower, side, stop, day, hour, a, b) != 0) {
            return NONE;
        }
        return keepAsked();
    }

    public int made(int drop, int what) throws NoSuchElementException {
        if (!isBelow(drop, dropCount) || !isWithin(what, 0, 11)) {
            throw new NoSuchElementException("no such drop, or nothing such of it");
        }
        Drop d = drops[drop];
        switch (what) {
            case 0: return d.tower;
            case 1: return d.side;
            case 2: return d.stop;
            case 3: return d.day;
            case 4: return d.hour;
            case 5: return d.hours;
            case 6: return d.panes;
            case 7: return d.wear;
            case 8: return d.price;
            case 9: return d.water;
            case 10: return isStopped(d) ? 1 : 0;
            default: return d.rescueWay();
        }
    }

    public int washed(int tower, int side, int floor, int column) {
        if (!isPane(tower, side, floor, column)) {
            return NONE;
        }
        for (int i = dropCount - 1; i >= 0; i--) {
            if (drops[i].hasReached(tower, side, floor, column)) {
                return drops[i].day;
            }
        }
        return NONE;
    }

    public int against(int side) {
        if (side != NONE && !isSide(side)) {
            return NONE;
        }
        int n = 0;
        for (int i = 0; i < dropCount; i++) {
            if ((side == NONE || drops[i].side == side) && isStopped(drops[i])) {
                n++;
            }
        }
        return n;
    }

    public int lost(int tower, int side, int day) {
        if (!isTold(tower) || !isSide(side) || !isDay(day)) {
            return NONE;
        }
        loadEmptyFacts(tower, side, day);
        int n = 0;
        for (int hour = 0; hour < HOURS; hour++) {
            if (leaves.covers(tower, day, hour)) {
                loadHour(side, day, hour);
                n += inForce.isStopping(facts) ? 1 : 0;
            }
        }
        return n;
    }

    // ---- Panes that are late, stops that reach all, scratches

    public int late(int tower, int side, int day, int promise) {
        if (!isTold(tower) || !isSide(side) || !isDay(day) || !isWithin(promise, 1, 99)) {
            return NONE;
        }
        int n = 0;
        for (int column = 0; column < towers[tower].columns; column++) {
            n += Integer.bitCount(lateFloors(tower, side, column, day - promise + 1, day));
        }
        return n;
    }

    public int reason(int tower, int side, int floor, int column, int day, int promise) {
        if (!isPane(tower, side, floor, column) || !isDay(day) || !isWithin(promise, 1, 99)) {
            return NONE;
        }
        Tower t = towers[tower];
        int first = Math.max(0, day - promise + 1);
        // A blocked pane is never late by the term's own words, so this is asked ahead of that.
        if (!hasBit(t.freeFloors(side, column), floor)) {
            return 1;
        }
        if (!hasBit(lateFloors(tower, side, column, first, day), floor)) {
            return 0;
        }
        if (!hasBit(t.reachedColumns(t.openStops(side)), column)) {
            return 2;
        }
        int place = panePlace(tower, side, floor, column);
        if (isNestedThroughout(place, first, day)) {
            return 3;
        }
        return isWorkableOnce(place, first, day) ? 5 : 4;
    }

    public int cover(int tower, int side, int what) {
        if (!isTold(tower) || !isSide(side) || !isWithin(what, 0, 1)) {
            return NONE;
        }
        int stops = towers[tower].fewestStops(side);
        if (stops == NONE) {
            return NONE;
        }
        return what == 0 ? Integer.bitCount(stops) : stops;
    }

    public int scratch(int tower, int side, int floor, int column, int a, int b, int what) {
        if (!isPane(tower, side, floor, column) || !areDays(a, b) || a == b || !isWithin(what, 0, 2)) {
            return NONE;
        }
        int suspects = 0;
        int n = 0;
        int last = NONE;
        for (int i = 0; i < dropCount; i++) {
            Drop d = drops[i];
            if (isWithin(d.day, a + 1, b) && d.hasReached(tower, side, floor, column)) {
                suspects |= 1 << d.one | 1 << d.other;
                n++;
                last = i;
            }
        }
        return what == 0 ? suspects : what == 1 ? n : last;
    }

    public long bill(int tower, int from, int to, int what) {
        if (tower != NONE && !isTold(tower) || !areDays(from, to) || !isWithin(what, 0, 4)) {
            return NONE;
        }
        long sum = 0;
        for (int i = 0; i < dropCount; i++) {
            Drop d = drops[i];
            if ((tower == NONE || d.tower == tower) && isWithin(d.day, from, to)) {
                sum += d.billed(what);
            }
        }
        return sum;
    }

    public int stands(int tower, int wear) {
        if (!isTold(tower) || !isWithin(wear, 1, LIFE_MOST)) {
            return NONE;
        }
        // A mark may bring back more wear than the life told since.
        return Math.max(0, towers[tower].life - towers[tower].worn) / wear;
    }

    // ---- Plans

    public int want(int side, int worth) {
        if (!isSide(side) || !isWithin(worth, 1, 99)) {
            return NONE;
        }
        return planner.addWanted(side, worth);
    }

    public boolean chance(int day, int side, int ten) {
        if (!isBelow(day, Planner.PLAN_DAYS) || !isSide(side) || !isWithin(ten, 0, 10)) {
            return false;
        }
        planner.setChance(day, side, ten);
        return true;
    }

    public boolean cap(int n) {
        if (!isWithin(n, 1, Planner.WANTED)) {
            return false;
        }
        planner.setCap(n);
        return true;
    }

    public long plan(int day, int left, int what) throws NoSuchElementException {
        if (!isBelow(day, Planner.PLAN_DAYS) || !isBelow(left, 1 << planner.size) || !isWithin(what, 0, 2)) {
            throw new NoSuchElementException("no such day, left or what");
        }
        if (what == 2) {
            return planner.firstSide(day, left);
        }
        return inLowestTerms(planner.worthFrom(day, left), Planner.tens(Planner.PLAN_DAYS - day), what);
    }

    public long fixed(int what) throws NoSuchElementException {
        if (!isWithin(what, 0, 6)) {
            throw new NoSuchElementException("no such what");
        }
        planner.findFixed();
        if (what >= 2) {
            return planner.fixedSide(what - 2);
        }
        return inLowestTerms(planner.fixedWorth, Planner.tens(Planner.PLAN_DAYS), what);
    }

    public boolean came(int day, int side, boolean yes) {
        if (!isBelow(day, Planner.PLAN_DAYS) || !isSide(side)) {
            return false;
        }
        planner.setCame(day, side, yes);
        return true;
    }

    public int hindsight(int what) {
        switch (what) {
            case 0: return planner.worthByPlan();
            case 1: return planner.worthByFixed();
            case 2: return planner.worthAtMost();
            default: return NONE;
        }
    }

    // ---- Gangs, cradles to be bought, rotas

    public boolean match(int a, int b, int n) {
        if (!isPerson(a) || !isPerson(b) || a == b || !isWithin(n, 0, 99)) {
            return false;
        }
        people.setTogether(a, b, n);
        return true;
    }

    public int gangs(int what) {
        if (!isWithin(what, 0, PEOPLE)) {
            return NONE;
        }
        people.pairUp();
        return what == 0 ? people.pairedSum : people.partner[what - 1];
    }

    public boolean offer(int offer, int cost, int towers, int many) {
        if (!isBelow(offer, Shop.OFFERS) || !isWithin(cost, 0, 9999)) {
            return false;
        }
        if (!isBelow(towers, 1 << TOWERS) || !isWithin(many, 0, TOWERS)) {
            return false;
        }
        shop.setOffer(offer, cost, towers, many);
        return true;
    }

    public int buy(int what) {
        if (!isWithin(what, 0, 1)) {
            return NONE;
        }
        int bought = shop.cheapest(toldTowers());
        return bought == NONE || what == 1 ? bought : shop.costOf(bought);
    }

    public boolean away(int person, int week, boolean yes) {
        if (!isPerson(person) || !isBelow(week, People.WEEKS)) {
            return false;
        }
        people.setAway(person, week, yes);
        return true;
    }

    public int rota(int n, int week) {
        if (!isWithin(n, 2, PEOPLE) || !isBelow(week, People.WEEKS)) {
            return NONE;
        }
        return people.onCall(n, week);
    }

    // ---- Keys and films

    public boolean key(int tower, int person, int day, int hour, boolean takes) {
        if (!isTold(tower) || !isPerson(person) || !isDay(day) || !isHour(hour)) {
            return false;
        }
        return keyBook.addLine(tower, person, day * HOURS + hour, takes);
    }

    public int holds(int tower, int day, int hour) {
        if (!isTold(tower) || !isDay(day) || !isHour(hour)) {
            return NONE;
        }
        return keyBook.holderAt(tower, day * HOURS + hour);
    }

    public int out(int tower, int day, int hour) {
        if (!isTold(tower) || !isDay(day) || !isHour(hour)) {
            return NONE;
        }
        return keyBook.longestOut(tower, day * HOURS + hour);
    }

    public boolean film(int tower, int side, int from, int to, int first, int last) {
        if (!isTold(tower) || !isSide(side) || !areDays(from, to) || !areHours(first, last)) {
            return false;
        }
        return films.add(sidePlace(tower, side), from, to, first, last);
    }

    public int clashes(int tower) {
        if (!isTold(tower)) {
            return NONE;
        }
        int n = 0;
        for (int i = 0; i < dropCount; i++) {
            if (drops[i].tower == tower && isFilmed(drops[i])) {
                n++;
            }
        }
        return n;
    }

    // ---- Complaints

    public int complain(int tower, int side, int floor, int day, int hour) {
        if (!isPane(tower, side, floor, 0) || !isDay(day) || !isHour(hour)) {
            return NONE;
        }
        boolean added = complaints.add(sidePlace(tower, side) * FLOORS + floor, day, day, hour, hour);
        return added ? complaints.size - 1 : NONE;
    }

    public int ours(int complaint, int what) {
        if (!isBelow(complaint, complaints.size) || !isWithin(what, 0, 1)) {
            return NONE;
        }
        int n = 0;
        int first = NONE;
        for (int i = dropCount - 1; i >= 0; i--) {
            if (isCauseOf(drops[i], complaint)) {
                n++;
                first = i;
            }
        }
        return what == 0 ? n : first;
    }

    public int band(int band, int what) {
        if (!isBelow(band, BANDS) || !isWithin(what, 0, 1)) {
            return NONE;
        }
        return what == 0 ? hoursInBand(band) : oursInBand(band);
    }

    public int worst() {
        int worst = NONE;
        int worstHours = 1;
        int worstOurs = 0;
        for (int b = 0; b < BANDS; b++) {
            int hours = hoursInBand(b);
            int ours = oursInBand(b);
            if (hours > 0 && (worst == NONE || ours * worstHours > worstOurs * hours)) {
                worst = b;
                worstHours = hours;
                worstOurs = ours;
            }
        }
        return worst;
    }

    public int week(int tower, int weekday, int what) {
        if (!isTold(tower) || !isBelow(weekday, WEEKDAYS) || !isWithin(what, 0, 2)) {
            return NONE;
        }
        return what == 2 ? complaintsOn(tower, weekday) : workOn(tower, weekday, what == 1);
    }

    // ---- Water, hours aloft

    public int water(int tower, int side, int floor, int column, int from, int to) {
        if (!isPane(tower, side, floor, column) || !areDays(from, to)) {
            return NONE;
        }
        int sum = 0;
        for (int i = 0; i < dropCount; i++) {
            Drop d = drops[i];
            if (isWithin(d.day, from, to) && d.hasReached(tower, side, floor, column)) {
                sum += d.waterOn(floor, column);
            }
        }
        return sum;
    }

    public int aloft(int person, int from, int to) {
        if (!isPerson(person) || !areDays(from, to)) {
            return NONE;
        }
        int hours = 0;
        for (int i = 0; i < dropCount; i++) {
            if (drops[i].hasPerson(person) && isWithin(drops[i].day, from, to)) {
                hours += drops[i].hours;
            }
        }
        return hours;
    }

    public int learnt(int person, int hours) {
        if (!isPerson(person) || !isWithin(hours, 1, 999)) {
            return NONE;
        }
        int sum = 0;
        for (int i = 0; i < dropCount; i++) {
            Drop d = drops[i];
            if (d.hasPerson(person) && people.isElder(d.besides(person))) {
                sum += d.hours;
                if (sum >= hours) {
                    return d.day;
                }
            }
        }
        return NONE;
    }

    public int gap(int person) {
        if (!isPerson(person)) {
            return NONE;
        }
        int most = NONE;
        for (int i = 0; i < dropCount; i++) {
            if (drops[i].hasPerson(person)) {
                most = Math.max(most, drops[i].daysSinceDrill(person));
            }
        }
        return most;
    }

    // ---- A row of drops tried, marks, counts

    public int row(int tower, int side, int stop, int day, int hour, int a, int b) {
        if (rowCount >= ROW || !isAskable(tower, side, stop, day, hour, a, b)) {
            return NONE;
        }
        int at = rowCount * ROW_PARTS;
        rowParts[at] = tower;
        rowParts[at + 1] = side;
        rowParts[at + 2] = stop;
        rowParts[at + 3] = day;
        rowParts[at + 4] = hour;
        rowParts[at + 5] = a;
        rowParts[at + 6] = b;
        rowCount++;
        return rowCount;
    }

    public boolean clear() {
        rowCount = 0;
        return true;
    }

    public long tried(int what) throws NoSuchElementException {
        if (!isWithin(what, 0, 4)) {
            throw new NoSuchElementException("no such what");
        }
        int before = dropCount;
        marks.hold(Marks.TRIAL, before, towers);
        int fault = makeRow();
        long answer = triedAnswer(what, before, fault);
        dropCount = marks.recall(Marks.TRIAL, towers);
        return answer;
    }

    public boolean mark(int mark, boolean back) {
        if (!isBelow(mark, Marks.MARKS)) {
            return false;
        }
        if (!back) {
            marks.lay(mark, dropCount, towers);
            return true;
        }
        if (!marks.isLaid(mark)) {
            return false;
        }
        dropCount = marks.goBack(mark, towers);
        return true;
    }

    public int count(int what) {
        switch (what) {
            case 0: return Integer.bitCount(toldTowers());
            case 1: return dropCount;
            case 2: return nests.size;
            case 3: return leaves.size;
            case 4: return planner.size;
            case 5: return shop.howMany();
            case 6: return reader.size;
            case 7: return people.elderCount();
            case 8: return blockedPanes();
            case 9: return keyBook.size;
            case 10: return films.size;
            case 11: return complaints.size;
            case 12: return rowCount;
            default: return NONE;
        }
    }

    // ---- What there is

    private static boolean isWithin(int x, int least, int most) {
        return x >= least && x <= most;
    }

    private static boolean isBelow(int x, int end) {
        return x >= 0 && x < end;
    }

    private static boolean hasBit(int bits, int at) {
        return (bits >> at & 1) != 0;
    }

    private static boolean isSide(int side) {
        return isBelow(side, SIDES);
    }

    private static boolean isDay(int day) {
        return isBelow(day, DAYS);
    }

    private static boolean areDays(int from, int to) {
        return isDay(from) && isDay(to) && from <= to;
    }

    private static boolean isHour(int hour) {
        return isBelow(hour, HOURS);
    }

    private static boolean areHours(int from, int to) {
        return isHour(from) && isHour(to) && from <= to;
    }

    private static boolean isPerson(int person) {
        return isBelow(person, PEOPLE);
    }

    private boolean isTold(int tower) {
        return isBelow(tower, TOWERS) && towers[tower] != null;
    }

    private boolean isStop(int tower, int side, int stop) {
        return isTold(tower) && isSide(side) && isBelow(stop, towers[tower].columns);
    }

    private boolean isPane(int tower, int side, int floor, int column) {
        return isStop(tower, side, column) && isBelow(floor, towers[tower].floors);
    }

    private boolean isAskable(int tower, int side, int stop, int day, int hour, int a, int b) {
        return isStop(tower, side, stop) && isDay(day) && isHour(hour) && isPerson(a) && isPerson(b);
    }

    private int toldTowers() {
        int bits = 0;
        for (int i = 0; i < TOWERS; i++) {
            bits |= towers[i] != null ? 1 << i : 0;
        }
        return bits;
    }

    private int blockedPanes() {
        int n = 0;
        for (int i = 0; i < TOWERS; i++) {
            n += towers[i] != null ? towers[i].blockedCount() : 0;
        }
        return n;
    }

    private static int sidePlace(int tower, int side) {
        return tower * SIDES + side;
    }

    private static int columnPlace(int tower, int side, int column) {
        return sidePlace(tower, side) * COLUMNS + column;
    }

    private static int panePlace(int tower, int side, int floor, int column) {
        return columnPlace(tower, side, column) * FLOORS + floor;
    }

    private int windIn(int side, int day, int hour) {
        int at = day * HOURS + hour;
        return isBelow(at, winds.length) ? winds[at] >> side * 8 & 127 : 0;
    }

    /** A bit for each pane reached, twelve to a column, from the stop's own column on. */
    private long reachedPanes(int tower, int side, int stop, int day) {
        Tower t = towers[tower];
        long reached = 0;
        for (int k = 0; k < t.width && stop + k < t.columns; k++) {
            int column = stop + k;
            int nested = nests.floorsOn(columnPlace(tower, side, column), day);
            reached |= (long) (t.freeFloors(side, column) & ~nested) << k * FLOORS;
        }
        return reached;
    }

    // ---- Why a drop may not be

    /** Lays the drop asked for behind the ones made, so that it can be kept without being told again. */
    private int ask(int tower, int side, int stop, int day, int hour, int a, int b) {
        if (!isAskable(tower, side, stop, day, hour, a, b) || dropCount >= DROPS) {
            return NONE;
        }
        if (dropCount > 0 && day < drops[dropCount - 1].day) {
            return NONE;
        }
        Drop d = drops[dropCount];
        d.place(tower, side, stop);
        d.day = day;
        d.hour = hour;
        d.one = a;
        d.other = b;
        d.oneDrill = people.drilled[a];
        d.otherDrill = people.drilled[b];
        weigh(d, towers[tower]);
        int why = whyNotGang(d, towers[tower]);
        return why != 0 ? why : whyNotHours(d, towers[tower]);
    }

    private void weigh(Drop d, Tower t) {
        d.floors = t.floors;
        d.rate = inForce.rate;
        d.hours = (t.floors + d.rate - 1) / Math.max(1, d.rate);
        d.reached = reachedPanes(d.tower, d.side, d.stop, d.day);
        d.panes = Long.bitCount(d.reached);
        d.worn = t.worn;
        d.age = ageAhead(d);
        loadFacts(d);
        loadHour(d.side, d.day, d.hour);
        d.wear = Math.max(0, inForce.answer(Rule.WEAR, facts));
        d.price = Math.max(0, inForce.answer(Rule.PRICE, facts));
        d.water = Math.max(0, inForce.answer(Rule.WATER, facts));
    }

    private int ageAhead(Drop d) {
        long left = d.reached;
        int oldest = d.day;
        for (int i = dropCount - 1; i >= 0 && left != 0; i--) {
            long both = left & drops[i].reachedSeenFrom(d);
            if (both != 0) {
                left &= ~both;
                oldest = drops[i].day;
            }
        }
        return left != 0 ? OLDEST : Math.min(OLDEST, d.day - oldest);
    }

    private int whyNotGang(Drop d, Tower t) {
        if (!hasBit(t.openStops(d.side), d.stop)) {
            return 1;
        }
        if (d.panes == 0) {
            return 2;
        }
        if (d.one == d.other || !people.isElder(d.one) && !people.isElder(d.other)) {
            return 3;
        }
        if (d.hour + d.hours > HOURS) {
            return 4;
        }
        if (isGangAloft(d)) {
            return 5;
        }
        if (isCradleAloft(d)) {
            return 6;
        }
        return isFreshlyDrilled(d.oneDrill, d.day) && isFreshlyDrilled(d.otherDrill, d.day) ? 0 : 7;
    }

    private int whyNotHours(Drop d, Tower t) {
        if (!isOnLeave(d)) {
            return 8;
        }
        if (isStopped(d)) {
            return 9;
        }
        if (isQuiet(d)) {
            return 10;
        }
        if ((long) t.worn + d.wear > t.life) {
            return 11;
        }
        if (inForce.keys && !isKeyHeld(d)) {
            return 12;
        }
        return isFilmed(d) ? 13 : 0;
    }

    private boolean isGangAloft(Drop d) {
        for (int i = 0; i < dropCount; i++) {
            if (drops[i].overlaps(d) && (drops[i].hasPerson(d.one) || drops[i].hasPerson(d.other))) {
                return true;
            }
        }
        return false;
    }

    private boolean isCradleAloft(Drop d) {
        for (int i = 0; i < dropCount; i++) {
            if (drops[i].overlaps(d) && drops[i].tower == d.tower) {
                return true;
            }
        }
        return false;
    }

    private boolean isFreshlyDrilled(int drilled, int day) {
        return drilled != NONE && isWithin(drilled, day - inForce.drillDays, day);
    }

    private boolean isOnLeave(Drop d) {
        for (int k = 0; k < d.hours; k++) {
            if (!leaves.covers(d.tower, d.day, d.hour + k)) {
                return false;
            }
        }
        return true;
    }

    private boolean isStopped(Drop d) {
        loadFacts(d);
        for (int k = 0; k < d.hours; k++) {
            loadHour(d.side, d.day, d.hour + k);
            if (inForce.isStopping(facts)) {
                return true;
            }
        }
        return false;
    }

    private boolean isQuiet(Drop d) {
        loadFacts(d);
        for (int k = 0; k < d.hours; k++) {
            loadHour(d.side, d.day, d.hour + k);
            if (inForce.isQuieting(facts)) {
                return true;
            }
        }
        return false;
    }

    private boolean isKeyHeld(Drop d) {
        for (int k = 0; k < d.hours; k++) {
            int holder = keyBook.holderAt(d.tower, d.day * HOURS + d.hour + k);
            if (holder == NONE || !d.hasPerson(holder)) {
                return false;
            }
        }
        return true;
    }

    private boolean isFilmed(Drop d) {
        for (int k = 0; k < d.hours; k++) {
            if (films.covers(sidePlace(d.tower, d.side), d.day, d.hour + k)) {
                return true;
            }
        }
        return false;
    }

    private int keepAsked() {
        Drop d = drops[dropCount];
        towers[d.tower].worn += d.wear;
        dropCount++;
        return dropCount - 1;
    }

    // ---- What the rule is asked over

    private void loadFacts(Drop d) {
        loadPlace(d.tower, d.side, d.day);
        facts[Rule.FACT_PANES] = d.panes;
        facts[Rule.FACT_HOURS] = d.hours;
        facts[Rule.FACT_WORN] = d.worn;
        facts[Rule.FACT_AGE] = d.age;
    }

    private void loadEmptyFacts(int tower, int side, int day) {
        loadPlace(tower, side, day);
        facts[Rule.FACT_PANES] = 0;
        facts[Rule.FACT_HOURS] = 1;
        facts[Rule.FACT_WORN] = towers[tower].worn;
        facts[Rule.FACT_AGE] = 0;
    }

    private void loadPlace(int tower, int side, int day) {
        facts[Rule.FACT_TOWER] = tower;
        facts[Rule.FACT_SIDE] = side;
        facts[Rule.FACT_FLOORS] = towers[tower].floors;
        facts[Rule.FACT_DAY] = day;
        facts[Rule.FACT_WEEK] = day % WEEKDAYS;
    }

    private void loadHour(int side, int day, int hour) {
        facts[Rule.FACT_HOUR] = hour;
        facts[Rule.FACT_WIND] = windIn(side, day, hour);
    }

    // ---- Late panes

    /** A bit for each floor of a column that is not blocked and that no drop washed on these days. */
    private int lateFloors(int tower, int side, int column, int from, int to) {
        int floors = towers[tower].freeFloors(side, column);
        for (int i = 0; i < dropCount; i++) {
            Drop d = drops[i];
            if (d.tower == tower && d.side == side && isWithin(d.day, from, to)) {
                floors &= ~d.reachedFloors(column);
            }
        }
        return floors;
    }

    private boolean isNestedThroughout(int place, int from, int to) {
        for (int day = from; day <= to; day++) {
            if (!nests.covers(place, day, 0)) {
                return false;
            }
        }
        return true;
    }

    private boolean isWorkableOnce(int place, int from, int to) {
        int onSide = place / (COLUMNS * FLOORS);
        for (int day = from; day <= to; day++) {
            if (!nests.covers(place, day, 0) && hasWorkableHour(onSide / SIDES, onSide % SIDES, day)) {
                return true;
            }
        }
        return false;
    }

    private boolean hasWorkableHour(int tower, int side, int day) {
        loadEmptyFacts(tower, side, day);
        for (int hour = 0; hour < HOURS; hour++) {
            if (leaves.covers(tower, day, hour)) {
                loadHour(side, day, hour);
                if (!inForce.isStopping(facts) && !inForce.isQuieting(facts)) {
                    return true;
                }
            }
        }
        return false;
    }

    // ---- Complaints by weather and weekday

    private boolean isCauseOf(Drop d, int complaint) {
        int place = complaints.place[complaint];
        return sidePlace(d.tower, d.side) == place / FLOORS && d.day == complaints.fromDay[complaint]
            && d.passes(place % FLOORS, complaints.fromHour[complaint]);
    }

    private boolean isOurs(int complaint) {
        for (int i = 0; i < dropCount; i++) {
            if (isCauseOf(drops[i], complaint)) {
                return true;
            }
        }
        return false;
    }

    private int bandOf(int side, int day, int hour) {
        return windIn(side, day, hour) / 10;
    }

    private int hoursInBand(int band) {
        int n = 0;
        for (int i = 0; i < dropCount; i++) {
            Drop d = drops[i];
            for (int k = 0; k < d.hours; k++) {
                n += bandOf(d.side, d.day, d.hour + k) == band ? 1 : 0;
            }
        }
        return n;
    }

    private int oursInBand(int band) {
        int n = 0;
        for (int i = 0; i < complaints.size; i++) {
            int side = complaints.place[i] / FLOORS % SIDES;
            if (bandOf(side, complaints.fromDay[i], complaints.fromHour[i]) == band && isOurs(i)) {
                n++;
            }
        }
        return n;
    }

    private int workOn(int tower, int weekday, boolean byHours) {
        int n = 0;
        for (int i = 0; i < dropCount; i++) {
            if (drops[i].tower == tower && drops[i].day % WEEKDAYS == weekday) {
                n += byHours ? drops[i].hours : 1;
            }
        }
        return n;
    }

    private int complaintsOn(int tower, int weekday) {
        int n = 0;
        for (int i = 0; i < complaints.size; i++) {
            int of = complaints.place[i] / (FLOORS * SIDES);
            n += of == tower && complaints.fromDay[i] % WEEKDAYS == weekday ? 1 : 0;
        }
        return n;
    }

    // ---- A row tried

    /** Makes what may be of the row; the WHY of the first that may not be, 0 if all may. */
    private int makeRow() {
        for (int i = 0; i < rowCount; i++) {
            int at = i * ROW_PARTS;
            int why = ask(rowParts[at], rowParts[at + 1], rowParts[at + 2], rowParts[at + 3],
                rowParts[at + 4], rowParts[at + 5], rowParts[at + 6]);
            if (why != 0) {
                return why;
            }
            keepAsked();
        }
        return 0;
    }

    private long triedAnswer(int what, int before, int fault) {
        if (what == 0) {
            return fault == 0 ? NONE : dropCount - before;
        }
        if (what == 1) {
            return fault == 0 ? NONE : fault;
        }
        long sum = 0;
        for (int i = before; i < dropCount; i++) {
            sum += what == 2 ? drops[i].price : what == 3 ? drops[i].hours : newlyWashed(i, before);
        }
        return sum;
    }

    private int newlyWashed(int drop, int before) {
        long left = drops[drop].reached;
        for (int i = before; i < drop; i++) {
            left &= ~drops[i].reachedSeenFrom(drops[drop]);
        }
        return Long.bitCount(left);
    }

    private static long inLowestTerms(long above, long below, int what) {
        long a = above;
        long b = below;
        for (int i = 0; i < 200 && b != 0; i++) {
            long rest = a % b;
            a = b;
            b = rest;
        }
        long divisor = Math.max(1, a);
        return (what == 0 ? above : below) / divisor;
    }

    /** A tower with its cradle; what is told of its sides is kept as bits. */
    private static final class Tower {
        final int floors;
        final int columns;
        int width = 2;
        int life = 1000;
        int worn = 0;
        private final int[] blocked = new int[SIDES * COLUMNS];
        private final int[] shut = new int[SIDES];

        Tower(int floors, int columns) {
            this.floors = floors;
            this.columns = columns;
        }

        void setBlocked(int side, int floor, int column, boolean yes) {
            int at = side * COLUMNS + column;
            if (isBelow(at, blocked.length)) {
                blocked[at] = withBit(blocked[at], floor, yes);
            }
        }

        int freeFloors(int side, int column) {
            int at = side * COLUMNS + column;
            return isBelow(at, blocked.length) ? ~blocked[at] & (1 << floors) - 1 : 0;
        }

        int blockedCount() {
            int n = 0;
            for (int i = 0; i < blocked.length; i++) {
                n += Integer.bitCount(blocked[i]);
            }
            return n;
        }

        void setOpen(int side, int stop, boolean open) {
            if (isSide(side)) {
                shut[side] = withBit(shut[side], stop, !open);
            }
        }

        int openStops(int side) {
            return isSide(side) ? ~shut[side] & (1 << columns) - 1 : 0;
        }

        int reachedColumns(int stops) {
            int reached = 0;
            for (int k = 0; k < width; k++) {
                reached |= stops << k;
            }
            return reached & (1 << columns) - 1;
        }

        private int neededColumns(int side) {
            int needed = 0;
            for (int column = 0; column < columns; column++) {
                needed |= freeFloors(side, column) != 0 ? 1 << column : 0;
            }
            return needed;
        }

        /** The first found of as many is the least as bits, for they are tried in that order. */
        int fewestStops(int side) {
            int open = openStops(side);
            int needed = neededColumns(side);
            int found = NONE;
            int fewest = COLUMNS + 1;
            for (int stops = 0; stops <= open; stops++) {
                boolean fewer = (stops & ~open) == 0 && Integer.bitCount(stops) < fewest;
                if (fewer && (needed & ~reachedColumns(stops)) == 0) {
                    found = stops;
                    fewest = Integer.bitCount(stops);
                }
            }
            return found;
        }

        private static int withBit(int bits, int at, boolean yes) {
            return yes ? bits | 1 << at : bits & ~(1 << at);
        }
    }

    /** Nests, leaves, films and complaints alike: a place, for some days, in some hours of each of them. */
    private static final class Spans {
        final int[] place;
        final int[] fromDay;
        final int[] fromHour;
        private final int[] toDay;
        private final int[] toHour;
        int size = 0;

        Spans(int most) {
            int room = Math.max(0, most);
            place = new int[room];
            fromDay = new int[room];
            toDay = new int[room];
            fromHour = new int[room];
            toHour = new int[room];
        }

        boolean add(int where, int firstDay, int lastDay, int firstHour, int lastHour) {
            if (size >= place.length) {
                return false;
            }
            place[size] = where;
            fromDay[size] = firstDay;
            toDay[size] = lastDay;
            fromHour[size] = firstHour;
            toHour[size] = lastHour;
            size++;
            return true;
        }

        boolean covers(int where, int day, int hour) {
            for (int i = 0; i < size; i++) {
                if (place[i] == where && isOn(i, day) && isWithin(hour, fromHour[i], toHour[i])) {
                    return true;
                }
            }
            return false;
        }

        /** Where places are panes: the floors of a column that are covered on a day. */
        int floorsOn(int column, int day) {
            int floors = 0;
            for (int i = 0; i < size; i++) {
                if (place[i] / FLOORS == column && isOn(i, day)) {
                    floors |= 1 << place[i] % FLOORS;
                }
            }
            return floors;
        }

        private boolean isOn(int i, int day) {
            return isWithin(day, fromDay[i], toDay[i]);
        }
    }

    /** A drop with all that is kept of it as it was when it was made. */
    private static final class Drop {
        int tower;
        int side;
        int stop;
        int floors;
        int day;
        int hour;
        int hours;
        int rate;
        int one;
        int other;
        int oneDrill;
        int otherDrill;
        int panes;
        int worn;
        int age;
        int wear;
        int price;
        int water;
        long reached;

        void place(int onTower, int onSide, int atStop) {
            tower = onTower;
            side = onSide;
            stop = atStop;
        }

        boolean overlaps(Drop d) {
            return day == d.day && hour < d.hour + d.hours && d.hour < hour + hours;
        }

        boolean hasPerson(int person) {
            return one == person || other == person;
        }

        int besides(int person) {
            return one == person ? other : one;
        }

        int daysSinceDrill(int person) {
            return day - (one == person ? oneDrill : otherDrill);
        }

        int reachedFloors(int column) {
            int k = column - stop;
            return isBelow(k, WIDEST) ? (int) (reached >>> k * FLOORS) & ONE_COLUMN : 0;
        }

        boolean hasReached(int onTower, int onSide, int floor, int column) {
            return tower == onTower && side == onSide && hasBit(reachedFloors(column), floor);
        }

        /** The panes reached, laid as if from the stop of another drop, so that the two can be compared. */
        long reachedSeenFrom(Drop d) {
            int k = stop - d.stop;
            if (tower != d.tower || side != d.side || !isWithin(k, 1 - WIDEST, WIDEST - 1)) {
                return 0;
            }
            return k >= 0 ? reached << k * FLOORS : reached >>> -k * FLOORS;
        }

        long billed(int what) {
            switch (what) {
                case 0: return price;
                case 1: return water;
                case 2: return hours;
                case 3: return panes;
                default: return 1;
            }
        }

        int rescueWay() {
            int most = 0;
            for (int k = 0; k < hours; k++) {
                int upper = floors - rate * k;
                int lower = Math.max(0, upper - rate);
                most = Math.max(most, Math.min(floors - lower, upper));
            }
            return most;
        }

        boolean passes(int floor, int inHour) {
            int k = inHour - hour;
            int upper = floors - rate * k;
            return isBelow(k, hours) && floor < upper && floor >= upper - rate;
        }

        /** What can't be shared evenly goes by columns, in each from the top down. */
        int waterOn(int floor, int column) {
            if (panes <= 0) {
                return 0;
            }
            int served = 0;
            for (int c = stop; c < column; c++) {
                served += Integer.bitCount(reachedFloors(c));
            }
            served += Integer.bitCount(reachedFloors(column) >>> floor + 1);
            return water / panes + (served < water % panes ? 1 : 0);
        }
    }

    /** A rule that was read: each E as a row of steps for a stack, and the numbers told. */
    private static final class Rule {
        static final int FACTS = 11;
        static final int FACT_TOWER = 0;
        static final int FACT_SIDE = 1;
        static final int FACT_FLOORS = 2;
        static final int FACT_DAY = 3;
        static final int FACT_WEEK = 4;
        static final int FACT_HOUR = 5;
        static final int FACT_WIND = 6;
        static final int FACT_PANES = 7;
        static final int FACT_HOURS = 8;
        static final int FACT_WORN = 9;
        static final int FACT_AGE = 10;
        // The places of the Es: six stops, six quiets, then those that are told once.
        static final int LIKES = 6;
        static final int QUIET = 6;
        static final int WEAR = 12;
        static final int PRICE = 13;
        static final int WATER = 14;
        private static final int PLACES = 15;
        // Steps are the tokens themselves: a number, a fact from here on, or what is done with the stack.
        private static final int NUMBERS = Reader.WORD;
        private static final int FACT = Reader.FIRST_FACT;
        // Five levels of E with four left sides open in each at most, and the part at hand.
        private static final int STACK = 32;

        int stops;
        int quiets;
        int rate;
        int drillDays;
        boolean keys;
        private final int[] steps = new int[Reader.SIGNS];
        private final int[] begin = new int[PLACES];
        private final int[] end = new int[PLACES];
        private final int[] stack = new int[STACK];
        private int length;

        Rule() {
            empty();
        }

        void empty() {
            length = 0;
            Arrays.fill(begin, 0);
            Arrays.fill(end, 0);
            stops = 0;
            quiets = 0;
            rate = 4;
            drillDays = 30;
            keys = false;
        }

        void open(int place) {
            if (isBelow(place, PLACES)) {
                begin[place] = length;
            }
        }

        void close(int place) {
            if (isBelow(place, PLACES)) {
                end[place] = length;
            }
        }

        void addStep(int step) {
            if (length < steps.length) {
                steps[length] = step;
                length++;
            }
        }

        boolean isStopping(int[] facts) {
            for (int i = 0; i < stops; i++) {
                if (answer(i, facts) != 0) {
                    return true;
                }
            }
            return false;
        }

        boolean isQuieting(int[] facts) {
            for (int i = 0; i < quiets; i++) {
                if (answer(QUIET + i, facts) != 0) {
                    return true;
                }
            }
            return false;
        }

        /** 0 where no E was told. */
        int answer(int place, int[] facts) {
            if (place < 0 || place >= PLACES) {
                return 0;
            }
            int top = 0;
            for (int i = begin[place]; i < end[place] && i < length; i++) {
                int fact = steps[i] - FACT;
                if (fact >= 0 && fact < facts.length && top < STACK) {
                    stack[top] = facts[fact];
                    top++;
                } else if (steps[i] < NUMBERS && top < STACK) {
                    stack[top] = steps[i];
                    top++;
                } else {
                    top = applyDeed(steps[i], top);
                }
            }
            return top > 0 ? stack[0] : 0;
        }

        private int applyDeed(int deed, int top) {
            if (deed == Reader.NOT && top >= 1) {
                stack[top - 1] = stack[top - 1] == 0 ? 1 : 0;
                return top;
            }
            if (top < 2) {
                return top;
            }
            int a = stack[top - 2];
            int b = stack[top - 1];
            switch (deed) {
                case Reader.AND: stack[top - 2] = a != 0 && b != 0 ? 1 : 0; break;
                case Reader.OR: stack[top - 2] = a != 0 || b != 0 ? 1 : 0; break;
                case Reader.LESS: stack[top - 2] = a < b ? 1 : 0; break;
                case Reader.EQUAL: stack[top - 2] = a == b ? 1 : 0; break;
                case Reader.PLUS: stack[top - 2] = a + b; break;
                case Reader.MINUS: stack[top - 2] = a - b; break;
                default: stack[top - 2] = a * b; break;
            }
            return top - 1;
        }
    }

    /** The tape, its tokens, and the reading of a rule from the left, which ends at the first fault. */
    private static final class Reader {
        static final int SIGNS = 1000;
        // Eight signs a word; the numbers below count them, and the facts, in the order of Rule's, behind them.
        private static final String WORDS =
            "stop    quiet   wear    price   water   rate    drill   keys    when    and     or      not     ";
        private static final String FACTS =
            "tower   side    floors  day     week    hour    wind    panes   hours   worn    age     ";
        private static final int WORD_SIGNS = 8;
        private static final int NUMBER_SIGNS = 4;

        // A token is one number: a NUMBER is as it is, a word or a sign is counted from these on.
        static final int WORD = 10000;
        private static final int SIGN = 20000;
        private static final int BAD = 30000;
        private static final int AT_END = 30001;

        private static final int STOP = WORD;
        private static final int QUIET = WORD + 1;
        private static final int WEAR = WORD + 2;
        private static final int PRICE = WORD + 3;
        private static final int WATER = WORD + 4;
        private static final int RATE = WORD + 5;
        private static final int DRILL = WORD + 6;
        private static final int KEYS = WORD + 7;
        private static final int WHEN = WORD + 8;
        static final int AND = WORD + 9;
        static final int OR = WORD + 10;
        static final int NOT = WORD + 11;
        static final int FIRST_FACT = WORD + 12;
        static final int LESS = SIGN + '<';
        static final int EQUAL = SIGN + '=';
        static final int PLUS = SIGN + '+';
        static final int MINUS = SIGN + '-';
        private static final int TIMES = SIGN + '*';
        private static final int OPENING = SIGN + '(';
        private static final int CLOSING = SIGN + ')';
        private static final int SEMICOLON = SIGN + ';';

        private static final int LEVEL_E = 0;
        private static final int LEVEL_TEST = 1;
        private static final int LEVEL_SUM = 2;
        private static final int LEVEL_PRODUCT = 3;
        private static final int DEEPEST = 5;

        private static final int CANNOT_STAND = 1;
        private static final int TWICE = 3;
        private static final int WRONG_NUMBER = 4;
        private static final int TOO_MANY = 5;

        int size = 0;
        private final char[] signs = new char[SIGNS];
        // The end is a token too.
        private final int[] tokens = new int[SIGNS + 1];
        private final int[] places = new int[SIGNS + 1];
        private int next = 0;
        private int last = 0;
        private int at = 0;
        private int token = AT_END;
        private int fault = 0;
        private int toldOnce = 0;

        void takeBytes(long bytes) {
            for (int shift = 56; shift >= 0; shift -= 8) {
                int sign = (int) (bytes >>> shift) & 255;
                if ((sign == 10 || isWithin(sign, 32, 126)) && size < SIGNS) {
                    signs[size] = (char) sign;
                    size++;
                }
            }
        }

        /** 0, or the fault; the tape is empty then. */
        int readInto(Rule rule) {
            rule.empty();
            cutTokens();
            at = 0;
            token = tokens[0];
            fault = 0;
            toldOnce = 0;
            for (int i = 0; i <= SIGNS && fault == 0 && token != AT_END; i++) {
                if (readLine(rule)) {
                    pass(SEMICOLON);
                }
            }
            size = 0;
            return fault;
        }

        // -- Tokens

        private void cutTokens() {
            last = 0;
            next = 0;
            for (int i = 0; i < SIGNS && next < size; i++) {
                if (signs[next] == 10 || signs[next] == 32) {
                    next++;
                } else if (last < SIGNS) {
                    places[last] = next;
                    tokens[last] = cutToken();
                    last++;
                }
            }
            places[last] = size;
            tokens[last] = AT_END;
        }

        private int cutToken() {
            if (isNextWithin('a', 'z')) {
                return cutWord();
            }
            if (isNextWithin('0', '9')) {
                return cutNumber();
            }
            char sign = next < SIGNS ? signs[next] : ' ';
            next++;
            return "()<=+-*;".indexOf(sign) >= 0 ? SIGN + sign : BAD;
        }

        private boolean isNextWithin(char least, char most) {
            return next < size && next < SIGNS && signs[next] >= least && signs[next] <= most;
        }

        private int cutWord() {
            int from = next;
            for (int i = 0; i < SIGNS && isNextWithin('a', 'z'); i++) {
                next++;
            }
            if (next - from > WORD_SIGNS) {
                return BAD;
            }
            int word = wordIn(WORDS, from);
            if (word != NONE) {
                return WORD + word;
            }
            int fact = wordIn(FACTS, from);
            return fact != NONE ? FIRST_FACT + fact : BAD;
        }

        /** Compares what is cut last, from its first sign on, filled up with blanks. */
        private int wordIn(String words, int from) {
            for (int w = 0; w + WORD_SIGNS <= words.length(); w += WORD_SIGNS) {
                int alike = 0;
                for (int i = 0; i < WORD_SIGNS; i++) {
                    char sign = from + i < next && from + i < SIGNS ? signs[from + i] : ' ';
                    alike += sign == words.charAt(w + i) ? 1 : 0;
                }
                if (alike == WORD_SIGNS) {
                    return w / WORD_SIGNS;
                }
            }
            return NONE;
        }

        private int cutNumber() {
            int from = next;
            int number = 0;
            for (int i = 0; i < SIGNS && isNextWithin('0', '9'); i++) {
                number = number * 10 + signs[next] - '0';
                next++;
            }
            return next - from <= NUMBER_SIGNS ? number : BAD;
        }

        private void takeToken() {
            if (at < last) {
                at++;
                token = tokens[at];
            }
        }

        private boolean isAtNumber() {
            return token < WORD;
        }

        private boolean isAtFact() {
            return token >= FIRST_FACT && token < SIGN;
        }

        private boolean refuse(int kind) {
            fault = kind + 16 * places[at];
            return false;
        }

        private boolean pass(int due) {
            if (token != due) {
                return refuse(CANNOT_STAND);
            }
            takeToken();
            return true;
        }

        private boolean passOnce() {
            int bit = 1 << token - WORD;
            if ((toldOnce & bit) != 0) {
                return refuse(TWICE);
            }
            toldOnce |= bit;
            takeToken();
            return true;
        }

        private boolean passNumber(int most) {
            if (!isAtNumber()) {
                return refuse(CANNOT_STAND);
            }
            if (!isWithin(token, 1, most)) {
                return refuse(WRONG_NUMBER);
            }
            takeToken();
            return true;
        }

        // -- Lines: each answers whether it had no fault

        private boolean readLine(Rule rule) {
            switch (token) {
                case STOP: return readStop(rule);
                case QUIET: return readQuiet(rule);
                case WEAR: return passOnce() && readE(rule, Rule.WEAR);
                case PRICE: return passOnce() && readE(rule, Rule.PRICE);
                case WATER: return passOnce() && readE(rule, Rule.WATER);
                case RATE: return passOnce() && readRate(rule);
                case DRILL: return passOnce() && readDrill(rule);
                case KEYS: return readKeys(rule);
                default: return refuse(CANNOT_STAND);
            }
        }

        private boolean readStop(Rule rule) {
            if (rule.stops >= Rule.LIKES) {
                return refuse(TOO_MANY);
            }
            takeToken();
            rule.stops++;
            return pass(WHEN) && readE(rule, rule.stops - 1);
        }

        private boolean readQuiet(Rule rule) {
            if (rule.quiets >= Rule.LIKES) {
                return refuse(TOO_MANY);
            }
            takeToken();
            rule.quiets++;
            return pass(WHEN) && readE(rule, Rule.QUIET + rule.quiets - 1);
        }

        private boolean readRate(Rule rule) {
            int told = token;
            if (!passNumber(12)) {
                return false;
            }
            rule.rate = told;
            return true;
        }

        private boolean readDrill(Rule rule) {
            int told = token;
            if (!passNumber(99)) {
                return false;
            }
            rule.drillDays = told;
            return true;
        }

        private boolean readKeys(Rule rule) {
            rule.keys = true;
            return passOnce();
        }

        private boolean readE(Rule rule, int place) {
            rule.open(place);
            boolean good = readLevel(rule, LEVEL_E, 0);
            rule.close(place);
            return good;
        }

        // -- The levels of an E, down to its parts; depth counts the nots and ( ) around

        private boolean readLevel(Rule rule, int level, int depth) {
            if (level > LEVEL_PRODUCT) {
                return readPart(rule, depth);
            }
            boolean good = readLevel(rule, level + 1, depth);
            // A TEST has one < or = at most.
            int most = level == LEVEL_TEST ? 1 : SIGNS;
            for (int i = 0; i < most && good && isAtJoint(level); i++) {
                int deed = token;
                takeToken();
                good = readLevel(rule, level + 1, depth);
                rule.addStep(deed);
            }
            return good;
        }

        private boolean isAtJoint(int level) {
            switch (level) {
                case LEVEL_E: return token == AND || token == OR;
                case LEVEL_TEST: return token == LESS || token == EQUAL;
                case LEVEL_SUM: return token == PLUS || token == MINUS;
                default: return token == TIMES;
            }
        }

        private boolean readPart(Rule rule, int depth) {
            int first = token;
            if (first != NOT && first != OPENING && !isAtNumber() && !isAtFact()) {
                return refuse(CANNOT_STAND);
            }
            if (depth >= DEEPEST) {
                return refuse(TOO_MANY);
            }
            takeToken();
            if (first == OPENING) {
                return readLevel(rule, LEVEL_E, depth + 1) && pass(CLOSING);
            }
            boolean good = first != NOT || readPart(rule, depth + 1);
            rule.addStep(first);
            return good;
        }
    }

    /** Who is an elder, drilled, away, and how two go together. */
    private static final class People {
        static final int WEEKS = 20;
        private static final int IMPOSSIBLE = -1;
        // Others by sets of elders: with ten people in all the most is 2 rows of 512, or 1 of 1024.
        private static final int PAIRINGS = 1024;

        final int[] drilled = new int[PEOPLE];
        final int[] partner = new int[PEOPLE];
        int pairedSum = 0;
        private int elders = 0;
        private final int[] together = new int[PEOPLE * PEOPLE];
        private final int[] awayWeeks = new int[PEOPLE];
        private final int[] elderList = new int[PEOPLE];
        private final int[] otherList = new int[PEOPLE];
        private final int[] best = new int[PAIRINGS];
        private final int[] weeksDone = new int[PEOPLE];
        private final int[] lastWeek = new int[PEOPLE];
        private int elderSize = 0;
        private int otherSize = 0;
        private boolean isPaired = false;

        People() {
            Arrays.fill(drilled, NONE);
        }

        void setElder(int person, boolean yes) {
            elders = yes ? elders | 1 << person : elders & ~(1 << person);
            isPaired = false;
        }

        boolean isElder(int person) {
            return hasBit(elders, person);
        }

        int elderCount() {
            return Integer.bitCount(elders);
        }

        void setTogether(int a, int b, int n) {
            if (isPerson(a) && isPerson(b)) {
                together[a * PEOPLE + b] = n;
                together[b * PEOPLE + a] = n;
                isPaired = false;
            }
        }

        // -- Gangs

        void pairUp() {
            if (isPaired) {
                return;
            }
            listPeople();
            for (int i = otherSize; i >= 0; i--) {
                for (int used = 0; used < 1 << elderSize; used++) {
                    putBest(i, used);
                }
            }
            choosePartners();
            isPaired = true;
        }

        private void listPeople() {
            elderSize = 0;
            otherSize = 0;
            for (int p = 0; p < PEOPLE; p++) {
                if (isElder(p)) {
                    elderList[elderSize] = p;
                    elderSize++;
                } else {
                    otherList[otherSize] = p;
                    otherSize++;
                }
            }
        }

        private int bestAt(int other, int used) {
            int at = (other << elderSize) + used;
            return isBelow(at, PAIRINGS) ? best[at] : IMPOSSIBLE;
        }

        /** The best that the others from this one on can add, with some elders gone already. */
        private void putBest(int other, int used) {
            int most;
            if (other >= otherSize) {
                most = Integer.bitCount(used) == Math.min(elderSize, otherSize) ? 0 : IMPOSSIBLE;
            } else {
                most = bestAt(other + 1, used);
                for (int e = 0; e < elderSize; e++) {
                    most = Math.max(most, sumWith(other, used, e));
                }
            }
            int at = (other << elderSize) + used;
            if (isBelow(at, PAIRINGS)) {
                best[at] = most;
            }
        }

        private int sumWith(int other, int used, int e) {
            if (hasBit(used, e) || !isBelow(other, PEOPLE) || !isBelow(e, PEOPLE)) {
                return IMPOSSIBLE;
            }
            int rest = bestAt(other + 1, used | 1 << e);
            return rest == IMPOSSIBLE ? IMPOSSIBLE : rest + together[otherList[other] * PEOPLE + elderList[e]];
        }

        private void choosePartners() {
            Arrays.fill(partner, NONE);
            pairedSum = bestAt(0, 0);
            int used = 0;
            for (int other = 0; other < otherSize; other++) {
                int e = leastBestElder(other, used);
                if (e != NONE) {
                    partner[otherList[other]] = elderList[e];
                    partner[elderList[e]] = otherList[other];
                    used |= 1 << e;
                }
            }
        }

        private int leastBestElder(int other, int used) {
            for (int e = 0; e < elderSize; e++) {
                if (!hasBit(used, e) && sumWith(other, used, e) == bestAt(other, used)) {
                    return e;
                }
            }
            return NONE;
        }

        // -- Rota

        void setAway(int person, int week, boolean yes) {
            if (isPerson(person)) {
                awayWeeks[person] = yes ? awayWeeks[person] | 1 << week : awayWeeks[person] & ~(1 << week);
            }
        }

        int onCall(int n, int week) {
            Arrays.fill(weeksDone, 0);
            Arrays.fill(lastWeek, NONE);
            int two = 0;
            for (int w = 0; w <= week; w++) {
                int one = nextOnCall(n, w, NONE);
                int other = one == NONE ? NONE : nextOnCall(n, w, one);
                two = putOnCall(one, w) | putOnCall(other, w);
            }
            return two;
        }

        private int nextOnCall(int n, int week, int butFor) {
            int found = NONE;
            for (int p = 0; p < n && p < PEOPLE; p++) {
                boolean free = p != butFor && !hasBit(awayWeeks[p], week);
                if (free && (found == NONE || isAheadOf(p, found))) {
                    found = p;
                }
            }
            return found;
        }

        private boolean isAheadOf(int a, int b) {
            if (weeksDone[a] != weeksDone[b]) {
                return weeksDone[a] < weeksDone[b];
            }
            return lastWeek[a] < lastWeek[b];
        }

        private int putOnCall(int person, int week) {
            if (!isPerson(person)) {
                return 0;
            }
            weeksDone[person]++;
            lastWeek[person] = week;
            return 1 << person;
        }
    }

    /** Who took and gave back which tower's key; hours are counted from hour 0 of day 0. */
    private static final class KeyBook {
        private static final int LINES = 60;

        int size = 0;
        private final int[] towerOf = new int[LINES];
        private final int[] personOf = new int[LINES];
        private final int[] hourOf = new int[LINES];
        private final boolean[] isTaken = new boolean[LINES];

        boolean addLine(int tower, int person, int hour, boolean takes) {
            if (size >= LINES || size > 0 && hour < hourOf[size - 1]) {
                return false;
            }
            if (holderAt(tower, hour) != (takes ? NONE : person)) {
                return false;
            }
            towerOf[size] = tower;
            personOf[size] = person;
            hourOf[size] = hour;
            isTaken[size] = takes;
            size++;
            return true;
        }

        int holderAt(int tower, int hour) {
            int holder = NONE;
            for (int i = 0; i < size && hourOf[i] <= hour; i++) {
                if (towerOf[i] == tower) {
                    holder = isTaken[i] ? personOf[i] : NONE;
                }
            }
            return holder;
        }

        int longestOut(int tower, int hour) {
            int most = 0;
            int since = NONE;
            for (int i = 0; i < size && hourOf[i] <= hour; i++) {
                if (towerOf[i] == tower && isTaken[i]) {
                    since = hourOf[i];
                } else if (towerOf[i] == tower) {
                    most = Math.max(most, hourOf[i] - since);
                    since = NONE;
                }
            }
            return since == NONE ? most : Math.max(most, hour - since);
        }
    }

    /** Days planned from the last one back; worth is counted in whole parts of a power of ten. */
    private static final class Planner {
        static final int PLAN_DAYS = 5;
        static final int WANTED = 8;
        private static final int SETS = 1 << WANTED;
        private static final int DAY_SETS = 1 << PLAN_DAYS;
        private static final int CHOICES = SIDES + 1;
        private static final int ROWS = 3125;
        private static final long UNKNOWN = -1;
        private static final int[] TENS = {1, 10, 100, 1000, 10000, 100000};
        private static final int[] PLACES = {625, 125, 25, 5, 1};

        int size = 0;
        long fixedWorth = UNKNOWN;
        private long cameWorth = UNKNOWN;
        private int fixedRow = 0;
        private int most = 2;
        private final int[] sideOf = new int[WANTED];
        private final int[] worthOf = new int[WANTED];
        // The wanted by their worth, the greatest first, of equal ones the first told.
        private final int[] order = new int[WANTED];
        private final int[] chances = new int[PLAN_DAYS * SIDES];
        // Of ten as well: what came is a chance of ten or of none, so the best known is the best fixed row.
        private final int[] cameTens = new int[PLAN_DAYS * SIDES];
        private final long[] known = new long[PLAN_DAYS * SETS];
        private final long[] worthOnDays = new long[SIDES * DAY_SETS];
        private final long[] odds = new long[PLAN_DAYS + 1];
        private final int[] worthOfTimes = new int[PLAN_DAYS + 1];
        private int bestRow = 0;
        private long bestRowWorth = 0;

        Planner() {
            Arrays.fill(chances, 5);
            Arrays.fill(cameTens, 10);
            Arrays.fill(known, UNKNOWN);
        }

        static long tens(int power) {
            return isBelow(power, TENS.length) ? TENS[power] : 1;
        }

        private void forget() {
            Arrays.fill(known, UNKNOWN);
            fixedWorth = UNKNOWN;
            cameWorth = UNKNOWN;
        }

        int addWanted(int side, int worth) {
            if (size >= WANTED) {
                return NONE;
            }
            sideOf[size] = side;
            worthOf[size] = worth;
            int at = size;
            for (int i = size; i > 0 && worthOf[order[i - 1]] < worth; i--) {
                order[i] = order[i - 1];
                at = i - 1;
            }
            order[at] = size;
            size++;
            forget();
            return size - 1;
        }

        void setChance(int day, int side, int ten) {
            int at = day * SIDES + side;
            if (isBelow(at, chances.length)) {
                chances[at] = ten;
                forget();
            }
        }

        void setCame(int day, int side, boolean yes) {
            int at = day * SIDES + side;
            if (isBelow(at, cameTens.length)) {
                cameTens[at] = yes ? 10 : 0;
                cameWorth = UNKNOWN;
            }
        }

        void setCap(int n) {
            most = n;
            forget();
        }

        private int doneOf(int left, int side) {
            int done = 0;
            int n = 0;
            for (int i = 0; i < size && n < most; i++) {
                int wanted = order[i];
                if (sideOf[wanted] == side && hasBit(left, wanted)) {
                    done |= 1 << wanted;
                    n++;
                }
            }
            return done;
        }

        private int worthOfAll(int wanted) {
            int sum = 0;
            for (int i = 0; i < size; i++) {
                sum += hasBit(wanted, i) ? worthOf[i] : 0;
            }
            return sum;
        }

        private static int tenOf(int[] tens, int day, int side) {
            int at = day * SIDES + side;
            return isBelow(at, tens.length) ? tens[at] : 0;
        }

        // -- Plan

        /** In parts of 10 to the power of how many days there are from this one on. */
        long worthFrom(int day, int left) {
            return bestFrom(day, left);
        }

        /** The day after the last one ends the recursion. */
        private long bestFrom(int day, int left) {
            int at = day * SETS + left;
            if (!isBelow(day, PLAN_DAYS) || !isBelow(at, known.length)) {
                return 0;
            }
            if (known[at] == UNKNOWN) {
                long best = bestWithNone(day, left);
                for (int side = 0; side < SIDES; side++) {
                    best = Math.max(best, bestWith(day, left, side));
                }
                known[at] = best;
            }
            return known[at];
        }

        private long bestWithNone(int day, int left) {
            return 10 * bestFrom(day + 1, left);
        }

        private long bestWith(int day, int left, int side) {
            int done = doneOf(left, side);
            int ten = tenOf(chances, day, side);
            long worked = worthOfAll(done) * tens(PLAN_DAYS - 1 - day) + bestFrom(day + 1, left & ~done);
            return ten * worked + (10 - ten) * bestFrom(day + 1, left);
        }

        int firstSide(int day, int left) {
            int first = NONE;
            long best = bestWithNone(day, left);
            for (int side = 0; side < SIDES; side++) {
                long worth = bestWith(day, left, side);
                if (worth > best) {
                    best = worth;
                    first = side;
                }
            }
            return first;
        }

        // -- Fixed

        void findFixed() {
            if (fixedWorth == UNKNOWN) {
                findRow(chances);
                fixedRow = bestRow;
                fixedWorth = bestRowWorth;
            }
        }

        int fixedSide(int day) {
            return sideIn(fixedRow, day);
        }

        /** A row is a number of five digits in base five, day 0 the highest, so that less is first in order. */
        private static int digitOf(int row, int day) {
            return isBelow(day, PLACES.length) ? row / PLACES[day] % CHOICES : SIDES;
        }

        private static int sideIn(int row, int day) {
            int digit = digitOf(row, day);
            return digit < SIDES ? digit : NONE;
        }

        private void findRow(int[] tens) {
            for (int side = 0; side < SIDES; side++) {
                weighTimes(side);
                for (int days = 0; days < DAY_SETS; days++) {
                    weighOdds(tens, side, days);
                    worthOnDays[side * DAY_SETS + days] = worthByOdds();
                }
            }
            bestRow = 0;
            bestRowWorth = UNKNOWN;
            for (int row = 0; row < ROWS; row++) {
                long worth = rowWorth(row);
                if (worth > bestRowWorth) {
                    bestRow = row;
                    bestRowWorth = worth;
                }
            }
        }

        /** Sides don't meet, so a row is worth what each side's own days are. */
        private long rowWorth(int row) {
            int days = 0;
            for (int day = 0; day < PLAN_DAYS; day++) {
                int digit = digitOf(row, day);
                days |= digit < SIDES ? 1 << digit * PLAN_DAYS + day : 0;
            }
            long sum = 0;
            for (int side = 0; side < SIDES; side++) {
                sum += worthOnDays[side * DAY_SETS + (days >> side * PLAN_DAYS & DAY_SETS - 1)];
            }
            return sum;
        }

        /** What a side is worth by how many times it can be worked. */
        private void weighTimes(int side) {
            int left = SETS - 1;
            int worth = 0;
            for (int k = 0; k <= PLAN_DAYS; k++) {
                worthOfTimes[k] = worth;
                int done = doneOf(left, side);
                worth += worthOfAll(done);
                left &= ~done;
            }
        }

        /** Of 100,000: how many times a side can be worked on these days. */
        private void weighOdds(int[] tens, int side, int days) {
            Arrays.fill(odds, 0);
            odds[0] = 1;
            for (int day = 0; day < PLAN_DAYS; day++) {
                int ten = hasBit(days, day) ? tenOf(tens, day, side) : 0;
                for (int k = PLAN_DAYS; k > 0; k--) {
                    odds[k] = odds[k] * (10 - ten) + odds[k - 1] * ten;
                }
                odds[0] *= 10 - ten;
            }
        }

        private long worthByOdds() {
            long sum = 0;
            for (int k = 0; k <= PLAN_DAYS; k++) {
                sum += odds[k] * worthOfTimes[k];
            }
            return sum;
        }

        // -- Hindsight

        int worthByPlan() {
            int left = (1 << size) - 1;
            for (int day = 0; day < PLAN_DAYS; day++) {
                left = leftBehind(day, left, firstSide(day, left));
            }
            return worthOfAll(~left);
        }

        int worthByFixed() {
            findFixed();
            int left = (1 << size) - 1;
            for (int day = 0; day < PLAN_DAYS; day++) {
                left = leftBehind(day, left, fixedSide(day));
            }
            return worthOfAll(~left);
        }

        private int leftBehind(int day, int left, int side) {
            boolean worked = side != NONE && tenOf(cameTens, day, side) > 0;
            return worked ? left & ~doneOf(left, side) : left;
        }

        int worthAtMost() {
            if (cameWorth == UNKNOWN) {
                findRow(cameTens);
                cameWorth = bestRowWorth;
            }
            return (int) (cameWorth / TENS[PLAN_DAYS]);
        }
    }

    /** Offers of cradles, and the cheapest of them by which each tower has one. */
    private static final class Shop {
        static final int OFFERS = 8;

        private final int[] cost = new int[OFFERS];
        private final int[] fits = new int[OFFERS];
        // 0: no such offer.
        private final int[] many = new int[OFFERS];

        void setOffer(int offer, int price, int towers, int atMost) {
            if (isBelow(offer, OFFERS)) {
                cost[offer] = price;
                fits[offer] = towers;
                many[offer] = atMost;
            }
        }

        int howMany() {
            return Integer.bitCount(allThere());
        }

        int costOf(int offers) {
            int sum = 0;
            for (int i = 0; i < OFFERS; i++) {
                sum += hasBit(offers, i) ? cost[i] : 0;
            }
            return sum;
        }

        /** The last found of equal cost is the least as bits, for they are tried from the greatest down. */
        int cheapest(int towers) {
            int there = allThere();
            // More offers never serve fewer: if all are not enough, no others need be tried.
            if (!isEnough(there, towers)) {
                return NONE;
            }
            int found = there;
            int least = costOf(there);
            for (int offers = there - 1; offers >= 0; offers--) {
                if ((offers & ~there) == 0 && costOf(offers) <= least && isEnough(offers, towers)) {
                    found = offers;
                    least = costOf(offers);
                }
            }
            return found;
        }

        private int allThere() {
            int there = 0;
            for (int i = 0; i < OFFERS; i++) {
                there |= many[i] > 0 ? 1 << i : 0;
            }
            return there;
        }

        /** Hall's rule: each tower has one if any group of them can be served by the offers that fit one of it. */
        private boolean isEnough(int offers, int towers) {
            for (int group = 1; group <= towers; group++) {
                if ((group & ~towers) == 0 && servedAtMost(offers, group) < Integer.bitCount(group)) {
                    return false;
                }
            }
            return true;
        }

        private int servedAtMost(int offers, int group) {
            int sum = 0;
            for (int i = 0; i < OFFERS; i++) {
                sum += hasBit(offers, i) && (fits[i] & group) != 0 ? many[i] : 0;
            }
            return sum;
        }
    }

    /** How many drops there were, and what the ropes had worn, when a mark was laid. */
    private static final class Marks {
        static final int MARKS = 4;
        // A place of its own for a row that is tried, beside the marks.
        static final int TRIAL = 4;

        private final int[] dropsThen = new int[MARKS + 1];
        private final int[] wornThen = new int[(MARKS + 1) * TOWERS];
        // When each was laid, by the count below; 0: nothing is on it.
        private final int[] laid = new int[MARKS];
        private int layings = 0;

        boolean isLaid(int mark) {
            return isBelow(mark, MARKS) && laid[mark] != 0;
        }

        void lay(int mark, int drops, Tower[] towers) {
            if (isBelow(mark, MARKS)) {
                hold(mark, drops, towers);
                layings++;
                laid[mark] = layings;
            }
        }

        int goBack(int mark, Tower[] towers) {
            for (int i = 0; i < MARKS; i++) {
                if (isBelow(mark, MARKS) && laid[i] > laid[mark]) {
                    laid[i] = 0;
                }
            }
            return recall(mark, towers);
        }

        void hold(int place, int drops, Tower[] towers) {
            if (!isWithin(place, 0, MARKS)) {
                return;
            }
            dropsThen[place] = drops;
            for (int i = 0; i < TOWERS && i < towers.length; i++) {
                wornThen[place * TOWERS + i] = towers[i] != null ? towers[i].worn : 0;
            }
        }

        int recall(int place, Tower[] towers) {
            if (!isWithin(place, 0, MARKS)) {
                return 0;
            }
            for (int i = 0; i < TOWERS && i < towers.length; i++) {
                if (towers[i] != null) {
                    towers[i].worn = wornThen[place * TOWERS + i];
                }
            }
            return dropsThen[place];
        }
    }
}
