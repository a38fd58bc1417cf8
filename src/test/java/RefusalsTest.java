import java.util.ArrayList;
import java.util.Arrays;
import java.util.List;
import java.util.Set;
import java.util.TreeSet;
import java.util.function.Supplier;

/**
 * "Refusals are met in the order in which a call tells them; 1 comes first without a DESK. DAYS of calls are
 * 0 .. 999, POINTS 0 .. SIZE each: else 2." (Term III), for every call that may be refused by its numbers: each
 * of them at the last that is allowed and the first that is not on either side, and as low and as high as an int
 * goes; which refusal is met first; and that a refused call changes nothing.
 */
public final class RefusalsTest {
    private static final Check CHECK = new Check();
    private static final int NONE = SalePlaces.NONE;
    private static final int FAR = Integer.MIN_VALUE;

    private interface Call {
        long on(SalePlaces x, int... a);
    }

    /** An argument that is refused by a number of TROUBLE outside of least .. most. */
    private record Limit(int argument, int least, int most, int trouble) {
    }

    /**
     * A call, its answer if it is refused, arguments within all limits with the TROUBLE that these
     * leave (0, or a refusal that is met behind those of the limits), and the limits in the order in
     * which they are met.
     */
    private record Row(String name, Supplier<SalePlaces> made, int refusal, Call call, int[] good, int otherwise,
            List<Limit> limits) {
        String told(int[] a) {
            StringBuilder text = new StringBuilder(name).append('(');
            for (int i = 0; i < a.length; i++) {
                text.append(i == 0 ? "" : ", ").append(a[i]);
            }
            return text.append(')').toString();
        }
    }

    private static final List<Row> ROWS = new ArrayList<>();

    public static void main(String[] args) {
        tellDesk();
        tellBorders();
        tellPoints();
        tellRates();
        tellBook();
        tellActs();
        tellFullRows();
        Set<String> names = new TreeSet<>();
        for (Row row : ROWS) {
            names.add(row.name);
            granted(row);
            refused(row);
            metFirst(row);
            withoutDesk(row);
        }
        CHECK.same("calls with numbers that may be refused", names.size(), 37);
        filedDays();
        CHECK.end();
    }

    // ---- objects

    /** Three LAYERS, 4 CLASSES, 6 PLACES, SIZE 20; LINES with 4, 0 and 2 units left; FILINGS up to 5 and 7. */
    private static SalePlaces booked() {
        SalePlaces x = city();
        x.sale(3, 5, 5, 2, 5, 1000);
        x.sale(5, 12, 5, 1, 3, 200);
        x.file(5);
        x.refund(1, 3);
        x.refund(0, 1);
        x.file(7);
        x.sale(9, 5, 15, 0, 2, 50);
        x.move(1, 40, 1, 0);
        x.turn(0, 0, 50, 700);
        return x;
    }

    private static SalePlaces city() {
        return Check.desk(Desks.CITY);
    }

    /** Three PLACES of one LAYER with four CORNERS each from DAY 0 on. */
    private static SalePlaces even() {
        return Check.desk("desk size 9 layers 1;class c;place p layer 0;place q layer 0;place r layer 0;"
                + "bound p 0 0 0 9 0 9 9 0 9;bound q 0 0 0 9 0 9 9 0 9;bound r 0 0 0 9 0 9 9 0 9");
    }

    /** Three bounds that may go 3 west, 5 east, 4 north, 2 south, from DAY 8 on. */
    private static SalePlaces loose() {
        return Check.desk("desk size 10 layers 1;class c;place o layer 0;place p layer 0;place q layer 0;"
                + "bound o 7 3 4 5 4 5 8 3 8;bound p 7 3 4 5 4 5 8 3 8;bound q 7 3 4 5 4 5 8 3 8");
    }

    /** PLACES without a bound, but for the last one, whose latest is none of area; SIZE 40. */
    private static SalePlaces bare() {
        return Check.desk("desk size 40 layers 1;class c;place o layer 0;place p layer 0;place q layer 0;"
                + "bound q 3 1 1 2 2 3 4;bound q 6 none");
    }

    /** 16 bounds, 20 rates, 12 FILINGS (up to DAYS 0 .. 11), 40 LINES. */
    private static SalePlaces full() {
        SalePlaces x = loose();
        for (int day = 8; day < 21; day++) {
            x.move(1, day, 0, 0);
        }
        for (int day = 0; day < 20; day++) {
            x.turn(1, 0, day, 100);
        }
        for (int day = 0; day < 12; day++) {
            x.file(day);
        }
        for (int l = 0; l < 40; l++) {
            x.sale(20, 4, 5, 0, 1, 50);
        }
        return x;
    }

    /** Twenty bytes on THE TAPE. */
    private static SalePlaces fed() {
        SalePlaces x = booked();
        Check.feed(x, "desk size 5 layers 1");
        return x;
    }

    // ---- rows

    private static int[] of(int... numbers) {
        return numbers;
    }

    private static Limit limit(int argument, int least, int most, int trouble) {
        return new Limit(argument, least, most, trouble);
    }

    private static Limit place(int argument) {
        return new Limit(argument, 0, 5, 1);
    }

    private static Limit goods(int argument) {
        return new Limit(argument, 0, 3, 1);
    }

    private static Limit day(int argument) {
        return new Limit(argument, 0, 999, 2);
    }

    private static Limit at(int argument) {
        return new Limit(argument, 0, 20, 2);
    }

    private static Limit units(int argument) {
        return new Limit(argument, 1, 99, 2);
    }

    private static Limit price(int argument) {
        return new Limit(argument, 1, 9999, 2);
    }

    private static void row(String name, Supplier<SalePlaces> made, Call call, int[] good, Limit... limits) {
        ROWS.add(new Row(name, made, NONE, call, good, 0, List.of(limits)));
    }

    private static void far(String name, Supplier<SalePlaces> made, Call call, int[] good, Limit... limits) {
        ROWS.add(new Row(name, made, FAR, call, good, 0, List.of(limits)));
    }

    private static void behind(int otherwise, String name, Supplier<SalePlaces> made, Call call, int[] good,
            Limit... limits) {
        int refusal = name.equals("file") ? FAR : NONE;
        ROWS.add(new Row(name, made, refusal, call, good, otherwise, List.of(limits)));
    }

    private static void tellDesk() {
        behind(4, "desk", RefusalsTest::fed, (x, a) -> x.desk(a[0]), of(10), limit(0, 0, 20, 2));
        row("about", RefusalsTest::booked, (x, a) -> x.about(a[0]), of(4), limit(0, 0, 8, 1));
        row("above", RefusalsTest::booked, (x, a) -> x.above(a[0]), of(2), goods(0));
        row("place", RefusalsTest::booked, (x, a) -> x.place(a[0], a[1]), of(1, 1), place(0), limit(1, 0, 2, 1));
    }

    private static void tellBorders() {
        row("corners", RefusalsTest::booked, (x, a) -> x.corners(a[0], a[1]), of(1, 5), place(0), day(1));
        row("corner", RefusalsTest::even, (x, a) -> x.corner(a[0], a[1], a[2], a[3]), of(1, 5, 1, 0),
                limit(0, 0, 2, 1), limit(3, 0, 1, 1), day(1), limit(2, 0, 3, 1));
        far("area", RefusalsTest::booked, (x, a) -> x.area(a[0], a[1]), of(1, 5), place(0), day(1));
        row("inside", RefusalsTest::booked, (x, a) -> x.inside(a[0], a[1], a[2], a[3]), of(1, 5, 3, 4),
                place(0), day(1), at(2), at(3));
        row("onEdge", RefusalsTest::booked, (x, a) -> x.onEdge(a[0], a[1], a[2], a[3]), of(1, 5, 3, 4),
                place(0), day(1), at(2), at(3));
        row("nextMove", RefusalsTest::booked, (x, a) -> x.nextMove(a[0], a[1]), of(1, 5), place(0), day(1));
    }

    private static void tellPoints() {
        row("settled", RefusalsTest::booked, (x, a) -> x.settled(a[0], a[1], a[2], a[3]), of(1, 5, 3, 4),
                limit(0, 0, 2, 1), day(1), at(2), at(3));
        row("stack", RefusalsTest::booked, (x, a) -> x.stack(a[0], a[1], a[2]), of(5, 3, 4), day(0), at(1), at(2));
        row("stackAt", RefusalsTest::city, (x, a) -> x.stackAt(a[0], a[1], a[2], a[3]), of(5, 3, 4, 1),
                limit(3, 0, 2, 1));
        behind(1, "stackAt", RefusalsTest::city, (x, a) -> x.stackAt(a[0], a[1], a[2], a[3]), of(5, 3, 4, 9),
                day(0), at(1), at(2));
        row("nextStack", RefusalsTest::booked, (x, a) -> x.nextStack(a[0], a[1], a[2]), of(5, 3, 4),
                day(0), at(1), at(2));
        row("overlap", RefusalsTest::even, (x, a) -> x.overlap(a[0], a[1], a[2]), of(0, 1, 5),
                limit(1, 1, 2, 1), day(2));
        row("overlap", RefusalsTest::even, (x, a) -> x.overlap(a[0], a[1], a[2]), of(0, 2, 5),
                limit(0, 0, 1, 1), day(2));
        // Of unlike LAYERS, which is met ahead of the DAY.
        behind(5, "overlap", RefusalsTest::city, (x, a) -> x.overlap(a[0], a[1], a[2]), of(0, 1, 5),
                limit(1, 1, 5, 1), limit(2, 0, 999, 5));
        row("points", RefusalsTest::booked, (x, a) -> x.points(a[0], a[1]), of(1, 5), place(0), day(1));
        row("stacked", RefusalsTest::booked, (x, a) -> x.stacked(a[0], a[1]), of(1, 5), limit(0, 0, 4, 2), day(1));
    }

    private static void tellRates() {
        row("rate", RefusalsTest::booked, (x, a) -> x.rate(a[0], a[1], a[2]), of(1, 1, 5),
                place(0), goods(1), day(2));
        row("free", RefusalsTest::booked, (x, a) -> x.free(a[0], a[1], a[2], a[3]), of(1, 1, 5, 7),
                place(0), goods(1), day(2), price(3));
        row("cap", RefusalsTest::booked, (x, a) -> x.cap(a[0], a[1]), of(1, 1), place(0), goods(1));
        row("stackRate", RefusalsTest::booked, (x, a) -> x.stackRate(a[0], a[1], a[2], a[3]), of(5, 3, 4, 1),
                goods(3), day(0), at(1), at(2));
        row("cheapest", RefusalsTest::booked, (x, a) -> x.cheapest(a[0], a[1]), of(5, 1), goods(1), day(0));
        row("due", RefusalsTest::booked, (x, a) -> x.due(a[0], a[1], a[2], a[3], a[4], a[5]), of(5, 3, 4, 1, 7, 9),
                goods(3), day(0), at(1), at(2), units(4), price(5));
        row("bestDay", RefusalsTest::booked, (x, a) -> x.bestDay(a[0], a[1], a[2], a[3], a[4], a[5], a[6]),
                of(5, 8, 3, 4, 1, 7, 9), goods(4), limit(0, 0, 8, 2), limit(1, 5, 999, 2), at(2), at(3), units(5),
                price(6));
    }

    private static void tellBook() {
        row("line", RefusalsTest::booked, (x, a) -> x.line(a[0], a[1]), of(1, 1), limit(0, 0, 2, 1),
                limit(1, 0, 9, 1));
        row("part", RefusalsTest::booked, (x, a) -> x.part(a[0], a[1], a[2]), of(1, 1, 1), limit(0, 0, 2, 1),
                limit(1, 0, 2, 1), limit(2, 0, 5, 1));
        row("entry", RefusalsTest::booked, (x, a) -> x.entry(a[0], a[1]), of(1, 1), limit(0, 0, 7, 1),
                limit(1, 0, 2, 1));
        row("taxes", RefusalsTest::booked, (x, a) -> x.taxes(a[0], a[1]), of(1, 1), limit(0, -1, 5, 1),
                limit(1, -1, 3, 1));
        row("filing", RefusalsTest::booked, (x, a) -> x.filing(a[0], a[1]), of(1, 1), limit(0, 0, 1, 1),
                limit(1, 0, 1, 1));
        far("pays", RefusalsTest::booked, (x, a) -> x.pays(a[0], a[1]), of(1, 1), limit(0, 0, 1, 1),
                limit(1, -1, 5, 1));
        far("pending", RefusalsTest::booked, (x, a) -> x.pending(a[0], a[1]), of(9, 1), limit(1, -1, 5, 1),
                limit(0, 8, 999, 2));
        far("pending", RefusalsTest::city, (x, a) -> x.pending(a[0], a[1]), of(9, 1), limit(1, -1, 5, 1), day(0));
        far("owed", RefusalsTest::booked, (x, a) -> x.owed(a[0]), of(1), limit(0, 0, 2, 1));
    }

    private static void tellActs() {
        far("file", RefusalsTest::booked, (x, a) -> x.file(a[0]), of(9), limit(0, 8, 999, 2));
        far("file", RefusalsTest::city, (x, a) -> x.file(a[0]), of(9), day(0));
        row("sale", RefusalsTest::city, (x, a) -> x.sale(a[0], a[1], a[2], a[3], a[4], a[5]), of(9, 3, 4, 1, 7, 9),
                goods(3), day(0), at(1), at(2), units(4), price(5));
        // DAYS up to 7 are FILED.
        behind(5, "sale", RefusalsTest::booked, (x, a) -> x.sale(a[0], a[1], a[2], a[3], a[4], a[5]),
                of(7, 3, 4, 1, 7, 9), goods(3), at(1), at(2), units(4), price(5));
        row("refund", RefusalsTest::booked, (x, a) -> x.refund(a[0], a[1]), of(2, 1), limit(0, 0, 2, 1),
                limit(1, 1, 2, 2));
        row("refund", RefusalsTest::booked, (x, a) -> x.refund(0, a[0]), of(2), limit(0, 1, 4, 2));
        row("move", RefusalsTest::loose, (x, a) -> x.move(a[0], a[1], a[2], a[3]), of(1, 9, 1, 1),
                limit(0, 0, 2, 1), limit(1, 8, 999, 2), limit(2, -3, 5, 2), limit(3, -4, 2, 2));
        // Without a bound: 5 is met behind the numbers.
        behind(5, "move", RefusalsTest::bare, (x, a) -> x.move(a[0], a[1], a[2], a[3]), of(1, 9, 1, 1),
                limit(0, 0, 2, 1), day(1), limit(2, -40, 40, 2), limit(3, -40, 40, 2));
        behind(5, "move", RefusalsTest::bare, (x, a) -> x.move(2, a[0], a[1], a[2]), of(9, 1, 1),
                limit(0, 7, 999, 2), limit(1, -40, 40, 2), limit(2, -40, 40, 2));
        row("turn", RefusalsTest::booked, (x, a) -> x.turn(a[0], a[1], a[2], a[3]), of(0, 0, 60, 1),
                place(0), goods(1), limit(2, 51, 999, 2), limit(3, 0, 2500, 2));
        row("turn", RefusalsTest::booked, (x, a) -> x.turn(5, 3, a[0], a[1]), of(60, 1), day(0),
                limit(1, 0, 2500, 2));
    }

    // No room is met behind all others.
    private static void tellFullRows() {
        behind(3, "file", RefusalsTest::full, (x, a) -> x.file(a[0]), of(15), limit(0, 12, 999, 2));
        behind(3, "sale", RefusalsTest::full, (x, a) -> x.sale(a[0], a[1], a[2], a[3], a[4], a[5]),
                of(15, 3, 4, 0, 7, 9), limit(3, 0, 0, 1), limit(1, 0, 10, 2), limit(2, 0, 10, 2), units(4), price(5));
        behind(3, "move", RefusalsTest::full, (x, a) -> x.move(a[0], a[1], a[2], a[3]), of(1, 30, 1, 1),
                limit(0, 0, 2, 1), limit(1, 21, 999, 2), limit(2, -3, 5, 2), limit(3, -4, 2, 2));
        behind(3, "turn", RefusalsTest::full, (x, a) -> x.turn(a[0], a[1], a[2], a[3]), of(1, 0, 30, 1),
                limit(0, 0, 2, 1), limit(1, 0, 0, 1), limit(2, 20, 999, 2), limit(3, 0, 2500, 2));
    }

    // A DAY of a SALE has two refusals: out of bounds, and FILED (up to 7 here).
    private static void filedDays() {
        int[][] due = {{FAR, 2}, {-1, 2}, {0, 5}, {7, 5}, {8, 0}, {999, 0}, {1000, 2}, {Integer.MAX_VALUE, 2}};
        String still = State.of(booked());
        for (int[] row : due) {
            SalePlaces x = booked();
            CHECK.told("sale on " + row[0], x, x.sale(row[0], 3, 4, 1, 7, 9), row[1] == 0 ? 3 : NONE, row[1]);
            CHECK.same("sale on " + row[0] + ", booked", State.of(x).equals(still) ? 0 : 1, row[1] == 0 ? 1 : 0);
        }
    }

    // ---- what each row is asked

    private static int[] with(int[] good, int argument, int number) {
        int[] a = good.clone();
        a[argument] = number;
        return a;
    }

    private static Set<Integer> outside(Limit limit) {
        Set<Integer> numbers = new TreeSet<>();
        int[] tried = {Integer.MIN_VALUE, Integer.MIN_VALUE + 1, limit.least - 1, limit.most + 1, limit.least + 256,
            limit.least + 65536, Integer.MAX_VALUE - 1, Integer.MAX_VALUE};
        for (int number : tried) {
            if (number < limit.least || number > limit.most) {
                numbers.add(number);
            }
        }
        return numbers;
    }

    // TROUBLE is another one ahead of the call, so that the call itself must set it.
    private static long call(Row row, SalePlaces x, int[] a, int due) {
        if (due == 2) {
            x.about(-1);
        } else {
            x.desk(-1);
        }
        return row.call.on(x, a);
    }

    private static void granted(Row row) {
        tryWithin(row, row.good);
        for (Limit limit : row.limits) {
            tryWithin(row, with(row.good, limit.argument, limit.least));
            tryWithin(row, with(row.good, limit.argument, limit.most));
        }
    }

    private static void tryWithin(Row row, int[] a) {
        SalePlaces x = row.made.get();
        long got = call(row, x, a, row.otherwise);
        String told = row.told(a);
        CHECK.same(told + " within its limits, trouble", x.trouble(), row.otherwise);
        CHECK.same(told + " within its limits, refused", got == row.refusal ? 1 : 0, row.otherwise == 0 ? 0 : 1);
    }

    private static void refused(Row row) {
        String still = State.of(row.made.get());
        for (Limit limit : row.limits) {
            for (int number : outside(limit)) {
                int[] a = with(row.good, limit.argument, number);
                SalePlaces x = row.made.get();
                CHECK.told(row.told(a), x, call(row, x, a, limit.trouble), row.refusal, limit.trouble);
                CHECK.text(row.told(a) + " changes nothing", State.of(x), still);
            }
        }
    }

    private static void metFirst(Row row) {
        for (int i = 0; i < row.limits.size(); i++) {
            Limit first = row.limits.get(i);
            for (int j = i + 1; j < row.limits.size(); j++) {
                Limit second = row.limits.get(j);
                int[] a = with(with(row.good, first.argument, first.least - 1), second.argument, second.most + 1);
                SalePlaces x = row.made.get();
                CHECK.told(row.told(a) + " is met first", x, call(row, x, a, first.trouble), row.refusal,
                        first.trouble);
            }
        }
    }

    private static void withoutDesk(Row row) {
        if (row.name.equals("desk")) {
            return;
        }
        SalePlaces x = new SalePlaces();
        CHECK.told(row.told(row.good) + " without a DESK", x, call(row, x, row.good, 1), row.refusal, 1);
        for (Limit limit : row.limits) {
            int[] a = with(row.good, limit.argument, limit.most + 1);
            CHECK.told(row.told(a) + " without a DESK", x, call(row, x, a, 1), row.refusal, 1);
        }
        int[] all = row.good.clone();
        Arrays.fill(all, -7);
        CHECK.told(row.told(all) + " without a DESK", x, call(row, x, all, 1), row.refusal, 1);
    }
}
