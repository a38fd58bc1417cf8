import java.util.NoSuchElementException;

/**
 * A desk for taxes by the place of a sale. The document (DOC.md) names its promises by number; the
 * words written large here (PLACE, BOUND, STACK, ..) are its terms.
 */
public final class SalePlaces {
    public static final int NONE = -1;

    // Numbers of TROUBLE.
    private static final int ABSENT = 1;
    private static final int NUMBER = 2;
    private static final int NO_ROOM = 3;
    private static final int FAULTY = 4;
    private static final int NOT_SO = 5;

    // The answer where something isn't there, but the call isn't refused.
    private static final int LACKING = -2;
    // The refusal of calls whose answers may be below 0.
    private static final int FAR = Integer.MIN_VALUE;

    private static final int TAPE_ROOM = 1200;
    private static final int FED_AT_ONCE = 20;
    private static final int LAST_DAY = 999;
    private static final int MOST_SIZE = 40;
    private static final int LAYER_ROOM = 4;
    private static final int CLASS_ROOM = 6;
    private static final int PLACE_ROOM = 10;
    private static final int BOUND_ROOM = 16;
    private static final int CORNER_ROOM = 6;
    private static final int RATE_ROOM = 20;
    private static final int HOLIDAY_ROOM = 6;
    private static final int CAP_ROOM = 6;
    private static final int LINE_ROOM = 40;
    private static final int FILING_ROOM = 12;
    private static final int ACT_ROOM = 8;
    private static final int MOST_RATE = 2500;
    private static final int MOST_PRICE = 9999;
    private static final int MOST_UNITS = 99;
    private static final int MOST_MOVED = 40;

    private final Reader reader;
    private Desk current;
    private boolean open;
    private final Book book;
    private final Acts acts;
    private final Line trial;
    private int refused;

    public SalePlaces() {
        reader = new Reader();
        current = new Desk();
        book = new Book();
        acts = new Acts();
        trial = new Line();
    }

    // ---- the desk

    public int feed(int a, int b, int c, int d, int e) {
        Tape tape = reader.tape;
        if (tape.fed + FED_AT_ONCE > TAPE_ROOM) {
            return NONE;
        }
        tape.append(a);
        tape.append(b);
        tape.append(c);
        tape.append(d);
        tape.append(e);
        return tape.fed;
    }

    public int desk(int n) {
        if (!within(n, 0, reader.tape.fed)) {
            return refuse(NUMBER);
        }
        reader.tape.fed = 0;
        if (!reader.reads(n)) {
            return refuse(FAULTY);
        }
        // The reader gets the former DESK to write the next one into, so that none is made anew.
        Desk read = reader.desk;
        reader.desk = current;
        current = read;
        open = true;
        book.empty();
        acts.count = 0;
        return grant(current.ground.places);
    }

    public int fault() {
        return reader.faultNumber;
    }

    public int where() {
        return refused == FAULTY ? reader.faultPlace : NONE;
    }

    public int about(int what) {
        if (!open || !within(what, 0, 8)) {
            return refuse(ABSENT);
        }
        return grant(what == 8 ? book.count : current.tells(what));
    }

    public int above(int c) {
        return isClass(c) ? grant(current.tariff.classOf[c]) : refuse(ABSENT);
    }

    public int place(int p, int what) {
        if (!isPlace(p) || !within(what, 0, 2)) {
            return refuse(ABSENT);
        }
        Ground ground = current.ground;
        if (what == 2) {
            return grant(ground.bounds.countOf(p));
        }
        return grant(what == 0 ? ground.layerOf[p] : bit(ground.only[p]));
    }

    // ---- borders

    public int corners(int p, int day) {
        if (!isPlace(p)) {
            return refuse(ABSENT);
        }
        if (!isDay(day)) {
            return refuse(NUMBER);
        }
        return grant(current.ground.bounds.cornersOn(p, day));
    }

    public int corner(int p, int day, int i, int what) {
        if (!isPlace(p) || !within(what, 0, 1)) {
            return refuse(ABSENT);
        }
        if (!isDay(day)) {
            return refuse(NUMBER);
        }
        Bounds bounds = current.ground.bounds;
        int bound = bounds.latest(p, day);
        if (bound < 0 || !within(i, 0, bounds.corners[bound] - 1)) {
            return refuse(ABSENT);
        }
        int at = bound * CORNER_ROOM + i;
        return grant(what == 0 ? bounds.xs[at] : bounds.ys[at]);
    }

    public int area(int p, int day) {
        if (!isPlace(p)) {
            return refuseFar(ABSENT);
        }
        if (!isDay(day)) {
            return refuseFar(NUMBER);
        }
        Bounds bounds = current.ground.bounds;
        int bound = bounds.latest(p, day);
        return grant(bound < 0 ? 0 : bounds.twiceArea(bound));
    }

    public int inside(int p, int day, int x, int y) {
        if (!isPlace(p)) {
            return refuse(ABSENT);
        }
        if (!isDay(day) || !isPoint(x, y)) {
            return refuse(NUMBER);
        }
        Bounds bounds = current.ground.bounds;
        return grant(bit(bounds.holds(bounds.latest(p, day), x, y)));
    }

    public int onEdge(int p, int day, int x, int y) {
        if (!isPlace(p)) {
            return refuse(ABSENT);
        }
        if (!isDay(day) || !isPoint(x, y)) {
            return refuse(NUMBER);
        }
        Bounds bounds = current.ground.bounds;
        int bound = bounds.latest(p, day);
        return grant(bit(bound >= 0 && bounds.touches(bound, x, y)));
    }

    public int nextMove(int p, int day) {
        if (!isPlace(p)) {
            return refuse(ABSENT);
        }
        if (!isDay(day)) {
            return refuse(NUMBER);
        }
        return grant(current.ground.bounds.nextOf(p, day));
    }

    // ---- points

    public int settled(int layer, int day, int x, int y) {
        if (!open || !within(layer, 0, current.ground.layers - 1)) {
            return refuse(ABSENT);
        }
        if (!isDay(day) || !isPoint(x, y)) {
            return refuse(NUMBER);
        }
        current.ground.look(day);
        return grant(current.ground.firstWith(layer, x, y));
    }

    public int stack(int day, int x, int y) {
        if (!open) {
            return refuse(ABSENT);
        }
        if (!isDay(day) || !isPoint(x, y)) {
            return refuse(NUMBER);
        }
        current.ground.look(day);
        current.ground.pile(x, y);
        return grant(current.ground.height);
    }

    public int stackAt(int day, int x, int y, int i) {
        if (!open) {
            return refuse(ABSENT);
        }
        if (!isDay(day) || !isPoint(x, y)) {
            return refuse(NUMBER);
        }
        Ground ground = current.ground;
        ground.look(day);
        ground.pile(x, y);
        return within(i, 0, ground.height - 1) ? grant(ground.piled[i]) : refuse(ABSENT);
    }

    public int nextStack(int day, int x, int y) {
        if (!open) {
            return refuse(ABSENT);
        }
        if (!isDay(day) || !isPoint(x, y)) {
            return refuse(NUMBER);
        }
        return grant(current.ground.nextPile(day, x, y));
    }

    public int overlap(int p, int q, int day) {
        if (!isPlace(p) || !isPlace(q) || p == q) {
            return refuse(ABSENT);
        }
        if (current.ground.layerOf[p] != current.ground.layerOf[q]) {
            return refuse(NOT_SO);
        }
        if (!isDay(day)) {
            return refuse(NUMBER);
        }
        current.ground.look(day);
        return grant(current.ground.countShared(p, q));
    }

    public int points(int p, int day) {
        if (!isPlace(p)) {
            return refuse(ABSENT);
        }
        if (!isDay(day)) {
            return refuse(NUMBER);
        }
        current.ground.look(day);
        return grant(current.ground.countSettled(p));
    }

    public int stacked(int many, int day) {
        if (!open) {
            return refuse(ABSENT);
        }
        if (!within(many, 0, LAYER_ROOM) || !isDay(day)) {
            return refuse(NUMBER);
        }
        current.ground.look(day);
        return grant(current.ground.countPiled(many));
    }

    // ---- rates

    public int rate(int p, int c, int day) {
        if (!isPlace(p) || !isClass(c)) {
            return refuse(ABSENT);
        }
        if (!isDay(day)) {
            return refuse(NUMBER);
        }
        return grant(current.tariff.rateFor(p, c, day));
    }

    public int free(int p, int c, int day, int price) {
        if (!isPlace(p) || !isClass(c)) {
            return refuse(ABSENT);
        }
        if (!isDay(day) || !within(price, 1, MOST_PRICE)) {
            return refuse(NUMBER);
        }
        return grant(bit(current.tariff.isFree(p, c, day, price)));
    }

    public int cap(int p, int c) {
        if (!isPlace(p) || !isClass(c)) {
            return refuse(ABSENT);
        }
        return grant(current.tariff.capFor(p, c));
    }

    public int stackRate(int day, int x, int y, int c) {
        if (!isClass(c)) {
            return refuse(ABSENT);
        }
        if (!isDay(day) || !isPoint(x, y)) {
            return refuse(NUMBER);
        }
        current.lookAt(day, c);
        return grant(current.ratesOver(x, y));
    }

    public int cheapest(int day, int c) {
        if (!isClass(c)) {
            return refuse(ABSENT);
        }
        if (!isDay(day)) {
            return refuse(NUMBER);
        }
        current.lookAt(day, c);
        return grant(current.cheapestPoint());
    }

    public int due(int day, int x, int y, int c, int units, int price) {
        if (!isClass(c)) {
            return refuse(ABSENT);
        }
        if (!isSale(day, x, y, units, price)) {
            return refuse(NUMBER);
        }
        trial.sell(day, x, y, c, units, price);
        return grant(dueOfTrial());
    }

    public int bestDay(int from, int till, int x, int y, int c, int units, int price) {
        if (!isClass(c)) {
            return refuse(ABSENT);
        }
        if (!isSale(from, x, y, units, price) || !within(till, from, LAST_DAY)) {
            return refuse(NUMBER);
        }
        trial.sell(from, x, y, c, units, price);
        return grant(bestDayOfTrial(till));
    }

    // ---- the book

    public int line(int l, int what) {
        if (!isLine(l) || !within(what, 0, 9)) {
            return refuse(ABSENT);
        }
        return grant(book.lines[l].tells(what));
    }

    public int part(int l, int i, int what) {
        if (!isLine(l) || !within(i, 0, book.lines[l].parts - 1) || !within(what, 0, 5)) {
            return refuse(ABSENT);
        }
        return grant(book.lines[l].tellsPart(i, what));
    }

    public int entries() {
        return open ? grant(book.gatherEntries()) : refuse(ABSENT);
    }

    public int entry(int i, int what) {
        if (!open || !within(i, 0, book.gatherEntries() - 1) || !within(what, 0, 2)) {
            return refuse(ABSENT);
        }
        int p = book.entryPlaces[i];
        int c = book.entryClasses[i];
        if (what == 2) {
            return grant(book.taxesOf(p, c));
        }
        return grant(what == 0 ? p : c);
    }

    public int taxes(int p, int c) {
        if (!isPlaceOrAll(p) || !(c == NONE || isClass(c))) {
            return refuse(ABSENT);
        }
        return grant(book.taxesOf(p, c));
    }

    public int filings() {
        return open ? grant(book.filed) : refuse(ABSENT);
    }

    public int filing(int i, int what) {
        if (!isFiling(i) || !within(what, 0, 1)) {
            return refuse(ABSENT);
        }
        return grant(what == 0 ? book.filingDays[i] : book.countFiled(i));
    }

    public int pays(int i, int p) {
        if (!isFiling(i) || !isPlaceOrAll(p)) {
            return refuseFar(ABSENT);
        }
        return grant(book.paidBy(i, p));
    }

    public int pending(int day, int p) {
        if (!isPlaceOrAll(p)) {
            return refuseFar(ABSENT);
        }
        if (!within(day, book.latestFiling() + 1, LAST_DAY)) {
            return refuseFar(NUMBER);
        }
        return grant(book.unpaid(day, p));
    }

    public int wrong() {
        if (!open) {
            return refuse(ABSENT);
        }
        int found = 0;
        for (int l = 0; l < book.count; l++) {
            found += bit(shortBy(book.lines[l]) != 0);
        }
        return grant(found);
    }

    public int owed(int l) {
        return isLine(l) ? grant(shortBy(book.lines[l])) : refuseFar(ABSENT);
    }

    // ---- acts

    public int file(int day) {
        if (!open) {
            return refuseFar(ABSENT);
        }
        if (!within(day, book.latestFiling() + 1, LAST_DAY)) {
            return refuseFar(NUMBER);
        }
        if (book.filed >= FILING_ROOM) {
            return refuseFar(NO_ROOM);
        }
        book.addFiling(day);
        acts.keep(Acts.FILED, 0, 0);
        return grant(book.paidBy(book.filed - 1, NONE));
    }

    public int sale(int day, int x, int y, int c, int units, int price) {
        if (!isClass(c)) {
            return refuse(ABSENT);
        }
        if (!isSale(day, x, y, units, price)) {
            return refuse(NUMBER);
        }
        if (day <= book.latestFiling()) {
            return refuse(NOT_SO);
        }
        if (book.count >= LINE_ROOM) {
            return refuse(NO_ROOM);
        }
        Line line = book.lines[book.count];
        line.sell(day, x, y, c, units, price);
        current.assess(line);
        book.count++;
        acts.keep(Acts.SOLD, 0, 0);
        return grant(book.count - 1);
    }

    public int refund(int l, int units) {
        if (!isLine(l)) {
            return refuse(ABSENT);
        }
        Line line = book.lines[l];
        if (!within(units, 1, line.left)) {
            return refuse(NUMBER);
        }
        int former = line.taxOf(NONE);
        line.left -= units;
        acts.keep(Acts.REFUNDED, l, units);
        return grant(former - line.taxOf(NONE));
    }

    public int move(int p, int day, int dx, int dy) {
        if (!isPlace(p)) {
            return refuse(ABSENT);
        }
        Bounds bounds = current.ground.bounds;
        int last = bounds.latest(p, LAST_DAY);
        if (!within(day, bounds.nextFree(p), LAST_DAY)
                || !within(dx, -MOST_MOVED, MOST_MOVED) || !within(dy, -MOST_MOVED, MOST_MOVED)
                || last >= 0 && !bounds.staysWithin(last, dx, dy, current.ground.size)) {
            return refuse(NUMBER);
        }
        if (last < 0 || bounds.corners[last] == 0) {
            return refuse(NOT_SO);
        }
        if (bounds.count >= BOUND_ROOM) {
            return refuse(NO_ROOM);
        }
        bounds.addMoved(last, day, dx, dy);
        acts.keep(Acts.MOVED, 0, 0);
        return grant(bounds.countOf(p));
    }

    public int turn(int p, int c, int day, int rate) {
        if (!isPlace(p) || !isClass(c)) {
            return refuse(ABSENT);
        }
        Rates rates = current.tariff.rates;
        if (!within(day, rates.nextFree(p, c), LAST_DAY) || !within(rate, 0, MOST_RATE)) {
            return refuse(NUMBER);
        }
        if (rates.count >= RATE_ROOM) {
            return refuse(NO_ROOM);
        }
        rates.add(p, c, day, rate);
        acts.keep(Acts.TURNED, 0, 0);
        return grant(rates.count);
    }

    public boolean undo() {
        if (!open || acts.count == 0) {
            refused = ABSENT;
            return false;
        }
        takeBack(acts.count - 1);
        acts.count--;
        refused = 0;
        return true;
    }

    // ---- what is told

    public int idle(int i) throws NoSuchElementException {
        int left = i;
        for (int p = 0; open && p < current.ground.places; p++) {
            if (!book.mentions(p)) {
                if (left == 0) {
                    return p;
                }
                left--;
            }
        }
        throw new NoSuchElementException();
    }

    public int size(int what) {
        switch (what) {
            case 0:
                return reader.tape.fed;
            case 1:
                return acts.count;
            case 2:
                return book.unitsLeft();
            default:
                return NONE;
        }
    }

    public int trouble() {
        return refused;
    }

    // ---- what the calls share

    private int grant(int answer) {
        refused = 0;
        return answer;
    }

    private int refuse(int number) {
        refused = number;
        return NONE;
    }

    private int refuseFar(int number) {
        refused = number;
        return FAR;
    }

    private boolean isPlace(int p) {
        return open && within(p, 0, current.ground.places - 1);
    }

    private boolean isPlaceOrAll(int p) {
        return open && within(p, NONE, current.ground.places - 1);
    }

    private boolean isClass(int c) {
        return open && within(c, 0, current.tariff.classes - 1);
    }

    private boolean isLine(int l) {
        return open && within(l, 0, book.count - 1);
    }

    private boolean isFiling(int i) {
        return open && within(i, 0, book.filed - 1);
    }

    private boolean isPoint(int x, int y) {
        return within(x, 0, current.ground.size) && within(y, 0, current.ground.size);
    }

    private boolean isSale(int day, int x, int y, int units, int price) {
        return isDay(day) && isPoint(x, y)
                && within(units, 1, MOST_UNITS) && within(price, 1, MOST_PRICE);
    }

    private static boolean isDay(int day) {
        return within(day, 0, LAST_DAY);
    }

    private static boolean within(int number, int least, int most) {
        return number >= least && number <= most;
    }

    private static int bit(boolean so) {
        return so ? 1 : 0;
    }

    private int dueOfTrial() {
        current.assess(trial);
        return trial.taxOf(NONE);
    }

    // Between two days on which something begins or ends every day is due alike, and the first
    // such day is wanted: so these days are enough.
    private int bestDayOfTrial(int till) {
        int best = trial.day;
        int least = dueOfTrial();
        int day = current.nextChange(best);
        for (int step = 0; step <= LAST_DAY && day <= till; step++) {
            trial.day = day;
            int amount = dueOfTrial();
            if (amount < least) {
                least = amount;
                best = day;
            }
            day = current.nextChange(day);
        }
        return best;
    }

    private int shortBy(Line line) {
        trial.sell(line.day, line.x, line.y, line.good, line.left, line.price);
        return dueOfTrial() - line.taxOf(NONE);
    }

    private void takeBack(int act) {
        switch (acts.kinds[act]) {
            case Acts.FILED:
                book.dropFiling();
                break;
            case Acts.SOLD:
                book.count--;
                break;
            case Acts.REFUNDED:
                book.lines[acts.lines[act]].left += acts.units[act];
                break;
            case Acts.MOVED:
                current.ground.bounds.count--;
                break;
            default:
                current.tariff.rates.count--;
                break;
        }
    }

    /** The bounds of all PLACES, those of one PLACE by rising DAYS; moved ones come last. */
    private static final class Bounds {
        int count;
        final int[] owners = new int[BOUND_ROOM];
        final int[] days = new int[BOUND_ROOM];
        final int[] corners = new int[BOUND_ROOM];
        final int[] xs = new int[BOUND_ROOM * CORNER_ROOM];
        final int[] ys = new int[BOUND_ROOM * CORNER_ROOM];

        // The bound that a PLACE has on a DAY; NONE if it has none yet.
        int latest(int p, int day) {
            for (int b = count - 1; b >= 0; b--) {
                if (owners[b] == p && days[b] <= day) {
                    return b;
                }
            }
            return NONE;
        }

        // The first DAY on which a PLACE may get another bound.
        int nextFree(int p) {
            int last = latest(p, LAST_DAY);
            return last < 0 ? 0 : days[last] + 1;
        }

        int countOf(int p) {
            int found = 0;
            for (int b = 0; b < count; b++) {
                found += bit(owners[b] == p);
            }
            return found;
        }

        int cornersOn(int p, int day) {
            int bound = latest(p, day);
            return bound < 0 ? 0 : corners[bound];
        }

        int nextOf(int p, int day) {
            for (int b = 0; b < count; b++) {
                if (owners[b] == p && days[b] > day) {
                    return days[b];
                }
            }
            return LACKING;
        }

        // The next DAY on which any bound begins; behind LAST_DAY without one.
        int nextOfAll(int day) {
            int next = LAST_DAY + 1;
            for (int b = 0; b < count; b++) {
                if (days[b] > day && days[b] < next) {
                    next = days[b];
                }
            }
            return next;
        }

        int twiceArea(int b) {
            int first = b * CORNER_ROOM;
            int from = first + corners[b] - 1;
            int sum = 0;
            for (int to = first; to < first + corners[b]; to++) {
                sum += xs[from] * ys[to] - xs[to] * ys[from];
                from = to;
            }
            return sum;
        }

        // No POINT is IN the bound NONE.
        boolean holds(int b, int x, int y) {
            if (b < 0) {
                return false;
            }
            int first = b * CORNER_ROOM;
            int from = first + corners[b] - 1;
            boolean odd = false;
            for (int to = first; to < first + corners[b]; to++) {
                if ((ys[from] > y) != (ys[to] > y) && isEast(from, to, x, y)) {
                    odd = !odd;
                }
                from = to;
            }
            return odd;
        }

        // Multiplied by the EDGE's rise instead of divided by it, so that it is exact.
        private boolean isEast(int from, int to, int x, int y) {
            int rise = ys[to] - ys[from];
            int ahead = (xs[from] - x) * rise + (y - ys[from]) * (xs[to] - xs[from]);
            return rise > 0 ? ahead > 0 : ahead < 0;
        }

        boolean touches(int b, int x, int y) {
            int first = b * CORNER_ROOM;
            int from = first + corners[b] - 1;
            for (int to = first; to < first + corners[b]; to++) {
                if (isOn(from, to, x, y)) {
                    return true;
                }
                from = to;
            }
            return false;
        }

        private boolean isOn(int from, int to, int x, int y) {
            int turned = (xs[to] - xs[from]) * (y - ys[from]) - (ys[to] - ys[from]) * (x - xs[from]);
            return turned == 0
                    && within(x, Math.min(xs[from], xs[to]), Math.max(xs[from], xs[to]))
                    && within(y, Math.min(ys[from], ys[to]), Math.max(ys[from], ys[to]));
        }

        boolean staysWithin(int b, int dx, int dy, int size) {
            int first = b * CORNER_ROOM;
            for (int at = first; at < first + corners[b]; at++) {
                if (!within(xs[at] + dx, 0, size) || !within(ys[at] + dy, 0, size)) {
                    return false;
                }
            }
            return true;
        }

        // CORNERS are put into the row behind the last one before it is added.
        void putCorner(int i, int x, int y) {
            xs[count * CORNER_ROOM + i] = x;
            ys[count * CORNER_ROOM + i] = y;
        }

        void add(int p, int day, int many) {
            owners[count] = p;
            days[count] = day;
            corners[count] = many;
            count++;
        }

        void addMoved(int b, int day, int dx, int dy) {
            for (int i = 0; i < corners[b]; i++) {
                putCorner(i, xs[b * CORNER_ROOM + i] + dx, ys[b * CORNER_ROOM + i] + dy);
            }
            add(owners[b], day, corners[b]);
        }
    }

    /** PLACES in their LAYERS, and what they are to POINTS on the DAY that was looked at last. */
    private static final class Ground {
        int size;
        int layers;
        int places;
        final int[] layerOf = new int[PLACE_ROOM];
        final boolean[] only = new boolean[PLACE_ROOM];
        final Bounds bounds = new Bounds();
        final int[] chosen = new int[PLACE_ROOM];
        final int[] piled = new int[LAYER_ROOM];
        int height;

        void begin(int newSize, int newLayers) {
            size = newSize;
            layers = newLayers;
            places = 0;
            bounds.count = 0;
        }

        void add(int layer, boolean isOnly) {
            layerOf[places] = layer;
            only[places] = isOnly;
            places++;
        }

        // Finds the bounds of a DAY once for all POINTS that are asked about next.
        void look(int day) {
            for (int p = 0; p < places; p++) {
                chosen[p] = bounds.latest(p, day);
            }
        }

        int firstWith(int layer, int x, int y) {
            for (int p = 0; p < places; p++) {
                if (layerOf[p] == layer && bounds.holds(chosen[p], x, y)) {
                    return p;
                }
            }
            return LACKING;
        }

        void pile(int x, int y) {
            height = 0;
            for (int layer = 0; layer < layers; layer++) {
                int p = firstWith(layer, x, y);
                if (p >= 0) {
                    piled[height] = p;
                    height++;
                    if (only[p]) {
                        return;
                    }
                }
            }
        }

        // A STACK is in the order of LAYERS, so its PLACES alone tell it from another one.
        private int pileMask(int day, int x, int y) {
            look(day);
            pile(x, y);
            int mask = 0;
            for (int i = 0; i < height; i++) {
                mask |= 1 << piled[i];
            }
            return mask;
        }

        int nextPile(int day, int x, int y) {
            int former = pileMask(day, x, y);
            int next = bounds.nextOfAll(day);
            for (int step = 0; step < BOUND_ROOM && next <= LAST_DAY; step++) {
                if (pileMask(next, x, y) != former) {
                    return next;
                }
                next = bounds.nextOfAll(next);
            }
            return LACKING;
        }

        int countShared(int p, int q) {
            int found = 0;
            for (int y = 0; y <= size; y++) {
                for (int x = 0; x <= size; x++) {
                    found += bit(bounds.holds(chosen[p], x, y) && bounds.holds(chosen[q], x, y));
                }
            }
            return found;
        }

        int countSettled(int p) {
            int found = 0;
            for (int y = 0; y <= size; y++) {
                for (int x = 0; x <= size; x++) {
                    found += bit(firstWith(layerOf[p], x, y) == p);
                }
            }
            return found;
        }

        int countPiled(int many) {
            int found = 0;
            for (int y = 0; y <= size; y++) {
                for (int x = 0; x <= size; x++) {
                    pile(x, y);
                    found += bit(height == many);
                }
            }
            return found;
        }
    }

    /** All rates told, those of one PLACE and CLASS by rising DAYS; turned ones come last. */
    private static final class Rates {
        int count;
        final int[] owners = new int[RATE_ROOM];
        final int[] goods = new int[RATE_ROOM];
        final int[] days = new int[RATE_ROOM];
        final int[] parts = new int[RATE_ROOM];

        int latest(int p, int c, int day) {
            for (int r = count - 1; r >= 0; r--) {
                if (owners[r] == p && goods[r] == c && days[r] <= day) {
                    return r;
                }
            }
            return NONE;
        }

        // The first DAY on which a PLACE may get another rate for a CLASS.
        int nextFree(int p, int c) {
            int last = latest(p, c, LAST_DAY);
            return last < 0 ? 0 : days[last] + 1;
        }

        void add(int p, int c, int day, int part) {
            owners[count] = p;
            goods[count] = c;
            days[count] = day;
            parts[count] = part;
            count++;
        }
    }

    /** CLASSES and what PLACES take of them: rates, holidays and caps. */
    private static final class Tariff {
        int classes;
        final int[] classOf = new int[CLASS_ROOM];
        final Rates rates = new Rates();
        int holidays;
        final int[] holidayPlaces = new int[HOLIDAY_ROOM];
        final int[] holidayClasses = new int[HOLIDAY_ROOM];
        final int[] holidayFirsts = new int[HOLIDAY_ROOM];
        final int[] holidayLasts = new int[HOLIDAY_ROOM];
        final int[] holidayPrices = new int[HOLIDAY_ROOM];
        int caps;
        final int[] capPlaces = new int[CAP_ROOM];
        final int[] capClasses = new int[CAP_ROOM];
        final int[] capAmounts = new int[CAP_ROOM];

        void begin() {
            classes = 0;
            rates.count = 0;
            holidays = 0;
            caps = 0;
        }

        void addClass(int of) {
            classOf[classes] = of;
            classes++;
        }

        void addHoliday(int p, int c, int first, int last, int price) {
            holidayPlaces[holidays] = p;
            holidayClasses[holidays] = c;
            holidayFirsts[holidays] = first;
            holidayLasts[holidays] = last;
            holidayPrices[holidays] = price;
            holidays++;
        }

        void addCap(int p, int c, int amount) {
            capPlaces[caps] = p;
            capClasses[caps] = c;
            capAmounts[caps] = amount;
            caps++;
        }

        int rateFor(int p, int c, int day) {
            int k = c;
            for (int step = 0; step < CLASS_ROOM && k >= 0; step++) {
                int found = rates.latest(p, k, day);
                if (found >= 0) {
                    return rates.parts[found];
                }
                k = classOf[k];
            }
            return 0;
        }

        boolean isFree(int p, int c, int day, int price) {
            for (int h = 0; h < holidays; h++) {
                if (holidayPlaces[h] == p && within(day, holidayFirsts[h], holidayLasts[h])
                        && price <= holidayPrices[h] && isUnder(c, holidayClasses[h])) {
                    return true;
                }
            }
            return false;
        }

        private boolean isUnder(int c, int top) {
            int k = c;
            for (int step = 0; step < CLASS_ROOM && k >= 0; step++) {
                if (k == top) {
                    return true;
                }
                k = classOf[k];
            }
            return false;
        }

        int capFor(int p, int c) {
            int k = c;
            for (int step = 0; step < CLASS_ROOM && k >= 0; step++) {
                int found = capTold(p, k);
                if (found >= 0) {
                    return capAmounts[found];
                }
                k = classOf[k];
            }
            return LACKING;
        }

        int capTold(int p, int c) {
            for (int i = 0; i < caps; i++) {
                if (capPlaces[i] == p && capClasses[i] == c) {
                    return i;
                }
            }
            return NONE;
        }

        // The next DAY on which a rate or a holiday begins, or on which a holiday is over.
        int nextOfAll(int day) {
            int next = LAST_DAY + 1;
            for (int r = 0; r < rates.count; r++) {
                next = nearer(next, day, rates.days[r]);
            }
            for (int h = 0; h < holidays; h++) {
                next = nearer(next, day, holidayFirsts[h]);
                next = nearer(next, day, holidayLasts[h] + 1);
            }
            return next;
        }

        private static int nearer(int next, int day, int other) {
            return other > day && other < next ? other : next;
        }
    }

    /** A DESK: what its text says, with the bounds moved and rates turned since. */
    private static final class Desk {
        final Ground ground = new Ground();
        final Tariff tariff = new Tariff();
        final int[] taken = new int[PLACE_ROOM];

        void begin(int size, int layers) {
            ground.begin(size, layers);
            tariff.begin();
        }

        int tells(int what) {
            switch (what) {
                case 0:
                    return ground.size;
                case 1:
                    return ground.layers;
                case 2:
                    return tariff.classes;
                case 3:
                    return ground.places;
                case 4:
                    return ground.bounds.count;
                case 5:
                    return tariff.rates.count;
                case 6:
                    return tariff.holidays;
                default:
                    return tariff.caps;
            }
        }

        int nextChange(int day) {
            return Math.min(ground.bounds.nextOfAll(day), tariff.nextOfAll(day));
        }

        // Finds bounds and RATES once for all POINTS that are asked about next.
        void lookAt(int day, int c) {
            ground.look(day);
            for (int p = 0; p < ground.places; p++) {
                taken[p] = tariff.rateFor(p, c, day);
            }
        }

        int ratesOver(int x, int y) {
            ground.pile(x, y);
            int sum = 0;
            for (int i = 0; i < ground.height; i++) {
                sum += taken[ground.piled[i]];
            }
            return sum;
        }

        int cheapestPoint() {
            int least = Integer.MAX_VALUE;
            int best = 0;
            // No RATE is below 0: behind a POINT where nobody taxes there is no cheaper one.
            for (int y = 0; y <= ground.size && least > 0; y++) {
                for (int x = 0; x <= ground.size && least > 0; x++) {
                    int sum = ratesOver(x, y);
                    if (sum < least) {
                        least = sum;
                        best = x + 100 * y;
                    }
                }
            }
            return best;
        }

        // Gives a LINE its PARTS as they are now.
        void assess(Line line) {
            ground.look(line.day);
            ground.pile(line.x, line.y);
            line.parts = 0;
            for (int i = 0; i < ground.height; i++) {
                int p = ground.piled[i];
                line.addPart(p, tariff.rateFor(p, line.good, line.day), tariff.capFor(p, line.good),
                        tariff.isFree(p, line.good, line.day, line.price));
            }
        }
    }

    /** A SALE with its PARTS. */
    private static final class Line {
        int day;
        int x;
        int y;
        int good;
        int sold;
        int price;
        int left;
        int filedBy = NONE;
        int parts;
        final int[] places = new int[LAYER_ROOM];
        final int[] rates = new int[LAYER_ROOM];
        final int[] caps = new int[LAYER_ROOM];
        final boolean[] exempt = new boolean[LAYER_ROOM];

        void sell(int onDay, int atX, int atY, int c, int units, int each) {
            day = onDay;
            x = atX;
            y = atY;
            good = c;
            sold = units;
            left = units;
            price = each;
            filedBy = NONE;
            parts = 0;
        }

        void addPart(int p, int rate, int cap, boolean isFree) {
            places[parts] = p;
            rates[parts] = rate;
            caps[parts] = cap;
            exempt[parts] = isFree;
            parts++;
        }

        int partBase(int i) {
            if (exempt[i]) {
                return 0;
            }
            return left * (caps[i] < 0 ? price : Math.min(price, caps[i]));
        }

        int partTax(int i) {
            // 99 units of 9,999 by 2,500 are more than an int holds.
            return (int) (((long) partBase(i) * rates[i] + 5000) / 10000);
        }

        // What a PLACE gets of it; of all with NONE, which is DUE.
        int taxOf(int p) {
            int sum = 0;
            for (int i = 0; i < parts; i++) {
                if (p == NONE || places[i] == p) {
                    sum += partTax(i);
                }
            }
            return sum;
        }

        boolean mentions(int p) {
            for (int i = 0; i < parts; i++) {
                if (places[i] == p) {
                    return true;
                }
            }
            return false;
        }

        int tells(int what) {
            switch (what) {
                case 0:
                    return day;
                case 1:
                    return x;
                case 2:
                    return y;
                case 3:
                    return good;
                case 4:
                    return sold;
                case 5:
                    return price;
                case 6:
                    return left;
                case 7:
                    return parts;
                case 8:
                    return taxOf(NONE);
                default:
                    return bit(filedBy >= 0);
            }
        }

        int tellsPart(int i, int what) {
            switch (what) {
                case 0:
                    return places[i];
                case 1:
                    return rates[i];
                case 2:
                    return caps[i];
                case 3:
                    return bit(exempt[i]);
                case 4:
                    return partBase(i);
                default:
                    return partTax(i);
            }
        }
    }

    /** THE BOOK with its FILINGS; THE LEDGER is gathered from its LINES when it is asked for. */
    private static final class Book {
        int count;
        final Line[] lines = new Line[LINE_ROOM];
        int filed;
        final int[] filingDays = new int[FILING_ROOM];
        final int[] paid = new int[FILING_ROOM * PLACE_ROOM];
        final int[] entryPlaces = new int[PLACE_ROOM * CLASS_ROOM];
        final int[] entryClasses = new int[PLACE_ROOM * CLASS_ROOM];
        final boolean[] met = new boolean[PLACE_ROOM * CLASS_ROOM];

        Book() {
            for (int l = 0; l < LINE_ROOM; l++) {
                lines[l] = new Line();
            }
        }

        void empty() {
            count = 0;
            filed = 0;
        }

        int unitsLeft() {
            int sum = 0;
            for (int l = 0; l < count; l++) {
                sum += lines[l].left;
            }
            return sum;
        }

        boolean mentions(int p) {
            for (int l = 0; l < count; l++) {
                if (lines[l].mentions(p)) {
                    return true;
                }
            }
            return false;
        }

        // NONE stands for all PLACES, all CLASSES.
        int taxesOf(int p, int c) {
            int sum = 0;
            for (int l = 0; l < count; l++) {
                if (c == NONE || lines[l].good == c) {
                    sum += lines[l].taxOf(p);
                }
            }
            return sum;
        }

        // Writes the ENTRIES' rows anew: how many there are.
        int gatherEntries() {
            for (int k = 0; k < met.length; k++) {
                met[k] = false;
            }
            int found = 0;
            for (int l = 0; l < count; l++) {
                Line line = lines[l];
                for (int i = 0; i < line.parts; i++) {
                    int key = line.places[i] * CLASS_ROOM + line.good;
                    if (!met[key]) {
                        met[key] = true;
                        entryPlaces[found] = line.places[i];
                        entryClasses[found] = line.good;
                        found++;
                    }
                }
            }
            return found;
        }

        // The DAY of the latest FILING; NONE, which is ahead of all DAYS, without one.
        int latestFiling() {
            return filed == 0 ? NONE : filingDays[filed - 1];
        }

        int countFiled(int filing) {
            int found = 0;
            for (int l = 0; l < count; l++) {
                found += bit(lines[l].filedBy == filing);
            }
            return found;
        }

        int paidBy(int filing, int p) {
            int sum = 0;
            for (int q = 0; q < PLACE_ROOM; q++) {
                if (p == NONE || p == q) {
                    sum += paid[filing * PLACE_ROOM + q];
                }
            }
            return sum;
        }

        // What is due by now of all LINES up to a DAY behind the latest FILING's (those that are
        // FILED are among them), less what was paid: so what REFUNDS of FILED LINES made less comes
        // off by itself.
        int unpaid(int day, int p) {
            int sum = 0;
            for (int l = 0; l < count; l++) {
                if (lines[l].day <= day) {
                    sum += lines[l].taxOf(p);
                }
            }
            for (int i = 0; i < filed; i++) {
                sum -= paidBy(i, p);
            }
            return sum;
        }

        void addFiling(int day) {
            for (int p = 0; p < PLACE_ROOM; p++) {
                paid[filed * PLACE_ROOM + p] = unpaid(day, p);
            }
            for (int l = 0; l < count; l++) {
                if (lines[l].filedBy < 0 && lines[l].day <= day) {
                    lines[l].filedBy = filed;
                }
            }
            filingDays[filed] = day;
            filed++;
        }

        void dropFiling() {
            filed--;
            for (int l = 0; l < count; l++) {
                if (lines[l].filedBy == filed) {
                    lines[l].filedBy = NONE;
                }
            }
        }
    }

    /** The latest ACTS; each takes the last row of its sort back, but for a REFUND, which is told. */
    private static final class Acts {
        static final int FILED = 0;
        static final int SOLD = 1;
        static final int REFUNDED = 2;
        static final int MOVED = 3;
        static final int TURNED = 4;

        int count;
        final int[] kinds = new int[ACT_ROOM];
        final int[] lines = new int[ACT_ROOM];
        final int[] units = new int[ACT_ROOM];

        void keep(int kind, int l, int many) {
            if (count == ACT_ROOM) {
                forgetFirst();
            }
            kinds[count] = kind;
            lines[count] = l;
            units[count] = many;
            count++;
        }

        private void forgetFirst() {
            count--;
            for (int i = 0; i < count; i++) {
                kinds[i] = kinds[i + 1];
                lines[i] = lines[i + 1];
                units[i] = units[i + 1];
            }
        }
    }

    /** THE TAPE, and its TOKENS one at a time. */
    private static final class Tape {
        static final int END = 0;
        static final int WORD = 1;
        static final int WHOLE = 2;
        static final int MARK = 3;
        static final int BAD = 4;
        static final int WORD_ROOM = 7;
        static final int WHOLE_ROOM = 4;

        final byte[] text = new byte[TAPE_ROOM];
        int fed;
        int end;
        int at;
        int behind;
        int kind;
        long word;
        int whole;

        // The caller has seen that there is room.
        void append(int number) {
            for (int shift = 24; shift >= 0; shift -= 8) {
                text[fed] = (byte) (number >> shift);
                fed++;
            }
        }

        void begin(int n) {
            end = n;
            behind = 0;
            step();
        }

        void step() {
            at = behind;
            while (at < end && text[at] == ' ') {
                at++;
            }
            behind = at;
            if (at >= end) {
                kind = END;
            } else if (text[at] >= 'a' && text[at] <= 'z') {
                takeWord();
            } else if (text[at] >= '0' && text[at] <= '9') {
                takeWhole();
            } else if (text[at] == ';') {
                kind = MARK;
                behind++;
            } else {
                kind = BAD;
            }
        }

        // Seven letters of five bits each fit, so that two WORDS are the same if these are.
        private void takeWord() {
            word = 0;
            while (behind < end && text[behind] >= 'a' && text[behind] <= 'z') {
                word = word * 32 + (text[behind] - 'a' + 1);
                behind++;
            }
            kind = behind - at <= WORD_ROOM ? WORD : BAD;
        }

        private void takeWhole() {
            whole = 0;
            while (behind < end && text[behind] >= '0' && text[behind] <= '9') {
                whole = whole * 10 + (text[behind] - '0');
                behind++;
            }
            kind = behind - at <= WHOLE_ROOM ? WHOLE : BAD;
        }

        boolean says(String told) {
            if (kind != WORD || behind - at != told.length()) {
                return false;
            }
            for (int i = 0; i < told.length(); i++) {
                if (text[at + i] != told.charAt(i)) {
                    return false;
                }
            }
            return true;
        }

        boolean isName() {
            return kind == WORD && !says("desk") && !says("class") && !says("place")
                    && !says("bound") && !says("rate") && !says("holiday") && !says("cap")
                    && !says("of") && !says("only") && !says("none");
        }
    }

    /**
     * Reads THE TAPE into a DESK, up to the first FAULT. Every FAULT stands at the TOKEN by which
     * it is met, so one walk from the left that asks for the least number first finds the right one.
     */
    private static final class Reader {
        static final int FORM = 1;
        static final int UNKNOWN = 2;
        static final int AGAIN = 3;
        static final int OUT = 4;
        static final int MANY = 5;
        static final int LACKS = 6;

        final Tape tape = new Tape();
        final long[] classNames = new long[CLASS_ROOM];
        final long[] placeNames = new long[PLACE_ROOM];
        Desk desk = new Desk();
        boolean begun;
        int faultNumber;
        int faultPlace;

        boolean reads(int n) {
            faultNumber = 0;
            begun = false;
            tape.begin(n);
            for (int lines = 0; lines <= TAPE_ROOM; lines++) {
                if (!readLine()) {
                    return false;
                }
                if (tape.kind == Tape.END) {
                    return isWhole() || fails(LACKS);
                }
                if (tape.kind != Tape.MARK) {
                    return fails(FORM);
                }
                tape.step();
            }
            return fails(FORM);
        }

        private boolean isWhole() {
            return desk.tariff.classes > 0 && desk.ground.places > 0;
        }

        private boolean fails(int number) {
            return failsAt(number, tape.at);
        }

        private boolean failsAt(int number, int place) {
            faultNumber = number;
            faultPlace = place;
            return false;
        }

        private boolean readLine() {
            Tariff tariff = desk.tariff;
            if (tape.says("desk")) {
                return begun ? fails(AGAIN) : readDesk();
            }
            if (tape.says("class")) {
                return starts(tariff.classes, CLASS_ROOM) && readClass();
            }
            if (tape.says("place")) {
                return starts(desk.ground.places, PLACE_ROOM) && readPlace();
            }
            if (tape.says("bound")) {
                return starts(desk.ground.bounds.count, BOUND_ROOM) && readBound();
            }
            if (tape.says("rate")) {
                return starts(tariff.rates.count, RATE_ROOM) && readRate();
            }
            if (tape.says("holiday")) {
                return starts(tariff.holidays, HOLIDAY_ROOM) && readHoliday();
            }
            if (tape.says("cap")) {
                return starts(tariff.caps, CAP_ROOM) && readCap();
            }
            return fails(FORM);
        }

        private boolean starts(int told, int room) {
            if (!begun) {
                return fails(LACKS);
            }
            if (told >= room) {
                return fails(MANY);
            }
            tape.step();
            return true;
        }

        private boolean readDesk() {
            tape.step();
            if (!readWord("size")) {
                return false;
            }
            int size = readWhole(2, MOST_SIZE);
            if (size < 0 || !readWord("layers")) {
                return false;
            }
            int layers = readWhole(1, LAYER_ROOM);
            if (layers < 0) {
                return false;
            }
            desk.begin(size, layers);
            begun = true;
            return true;
        }

        // Its own NAME is not told before the line ends, so that no CLASS is of itself.
        private boolean readClass() {
            long name = readNewName();
            if (name < 0) {
                return false;
            }
            int of = LACKING;
            if (tape.says("of")) {
                tape.step();
                of = readName(classNames, desk.tariff.classes);
                if (of < 0) {
                    return false;
                }
            }
            classNames[desk.tariff.classes] = name;
            desk.tariff.addClass(of);
            return true;
        }

        private boolean readPlace() {
            long name = readNewName();
            if (name < 0 || !readWord("layer")) {
                return false;
            }
            int layer = readWhole(0, desk.ground.layers - 1);
            if (layer < 0) {
                return false;
            }
            boolean only = tape.says("only");
            if (only) {
                tape.step();
            }
            placeNames[desk.ground.places] = name;
            desk.ground.add(layer, only);
            return true;
        }

        private boolean readBound() {
            Bounds bounds = desk.ground.bounds;
            int p = readName(placeNames, desk.ground.places);
            if (p < 0) {
                return false;
            }
            int day = readWhole(bounds.nextFree(p), LAST_DAY);
            if (day < 0) {
                return false;
            }
            int many = 0;
            if (tape.says("none")) {
                tape.step();
            } else {
                many = readCorners(bounds);
            }
            if (many < 0) {
                return false;
            }
            bounds.add(p, day, many);
            return true;
        }

        // How many there are; a seventh one is left standing, where no line goes on.
        private int readCorners(Bounds bounds) {
            int many = 0;
            while (many < CORNER_ROOM && (many < 3 || tape.kind == Tape.WHOLE)) {
                int x = readWhole(0, desk.ground.size);
                if (x < 0) {
                    return NONE;
                }
                int y = readWhole(0, desk.ground.size);
                if (y < 0) {
                    return NONE;
                }
                bounds.putCorner(many, x, y);
                many++;
            }
            return many;
        }

        private boolean readRate() {
            Rates rates = desk.tariff.rates;
            int p = readName(placeNames, desk.ground.places);
            int c = p < 0 ? NONE : readName(classNames, desk.tariff.classes);
            if (c < 0) {
                return false;
            }
            int day = readWhole(rates.nextFree(p, c), LAST_DAY);
            int part = day < 0 ? NONE : readWhole(0, MOST_RATE);
            if (part < 0) {
                return false;
            }
            rates.add(p, c, day, part);
            return true;
        }

        private boolean readHoliday() {
            int p = readName(placeNames, desk.ground.places);
            int c = p < 0 ? NONE : readName(classNames, desk.tariff.classes);
            if (c < 0) {
                return false;
            }
            int first = readWhole(0, LAST_DAY);
            int last = first < 0 ? NONE : readWhole(first, LAST_DAY);
            if (last < 0 || !readWord("price")) {
                return false;
            }
            int price = readWhole(1, MOST_PRICE);
            if (price < 0) {
                return false;
            }
            desk.tariff.addHoliday(p, c, first, last, price);
            return true;
        }

        private boolean readCap() {
            int p = readName(placeNames, desk.ground.places);
            int classPlace = tape.at;
            int c = p < 0 ? NONE : readName(classNames, desk.tariff.classes);
            if (c < 0) {
                return false;
            }
            if (desk.tariff.capTold(p, c) >= 0) {
                return failsAt(AGAIN, classPlace);
            }
            int amount = readWhole(1, MOST_PRICE);
            if (amount < 0) {
                return false;
            }
            desk.tariff.addCap(p, c, amount);
            return true;
        }

        private boolean readWord(String told) {
            if (!tape.says(told)) {
                return fails(FORM);
            }
            tape.step();
            return true;
        }

        // NONE with a FAULT.
        private int readWhole(int least, int most) {
            if (tape.kind != Tape.WHOLE) {
                fails(FORM);
                return NONE;
            }
            int found = tape.whole;
            if (!within(found, least, most)) {
                fails(OUT);
                return NONE;
            }
            tape.step();
            return found;
        }

        // NONE with a FAULT.
        private long readNewName() {
            if (!tape.isName()) {
                fails(FORM);
                return NONE;
            }
            long name = tape.word;
            if (indexOf(classNames, desk.tariff.classes, name) >= 0
                    || indexOf(placeNames, desk.ground.places, name) >= 0) {
                fails(AGAIN);
                return NONE;
            }
            tape.step();
            return name;
        }

        // The number of a NAME told ahead; NONE with a FAULT.
        private int readName(long[] names, int many) {
            if (!tape.isName()) {
                fails(FORM);
                return NONE;
            }
            int found = indexOf(names, many, tape.word);
            if (found < 0) {
                fails(UNKNOWN);
                return NONE;
            }
            tape.step();
            return found;
        }

        private static int indexOf(long[] names, int many, long name) {
            for (int i = 0; i < many; i++) {
                if (names[i] == name) {
                    return i;
                }
            }
            return NONE;
        }
    }
}
