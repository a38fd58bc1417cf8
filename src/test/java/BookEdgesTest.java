import java.util.NoSuchElementException;

/**
 * Term II on THE BOOK, THE LEDGER, FILINGS and ACTS, and promises 29 to 48, at their edges: each group of checks
 * stands for one sentence of the document, which is quoted above it.
 */
public final class BookEdgesTest {
    private static final Check CHECK = new Check();
    private static final int LOW = Integer.MIN_VALUE;
    private static final int HIGH = Integer.MAX_VALUE;
    /** Four PLACES over all of SIZE 40, a quarter each. */
    private static final String FOUR = "desk size 40 layers 4;class c;place p layer 0;place q layer 1;place r layer 2;"
            + "place s layer 3;bound p 0 0 0 40 0 40 40 0 40;bound q 0 0 0 40 0 40 40 0 40;"
            + "bound r 0 0 0 40 0 40 40 0 40;bound s 0 0 0 40 0 40 40 0 40;rate p c 0 2500;rate q c 0 2500;"
            + "rate r c 0 2500;rate s c 0 2500";

    public static void main(String[] args) {
        line();
        linesAreFull();
        part();
        asTheyWereBooked();
        refunds();
        entries();
        ledgerIsFull();
        taxes();
        filings();
        filingsAreFull();
        filedUpToADay();
        corrections();
        payingAll();
        noSaleOnFiledDays();
        wrong();
        owed();
        move();
        movedTooFar();
        boundsAreFull();
        turn();
        ratesAreFull();
        undoNothing();
        eightAreKept();
        undoFullRows();
        idle();
        size();
        trouble();
        CHECK.end();
    }

    private static int undo(SalePlaces x) {
        return x.undo() ? 1 : 0;
    }

    // "Of a LINE 0 DAY, 1 X, 2 Y, 3 CLASS, 4 units sold, 5 price, 6 units left, 7 PARTS, 8 DUE of the units left,
    // 9 1 if it is FILED. NONE: 1."
    private static void line() {
        SalePlaces x = Check.desk(FOUR);
        CHECK.told("of an empty BOOK", x, x.line(0, 0), -1, 1);
        x.sale(0, 0, 0, 0, 1, 1);
        x.sale(999, 40, 40, 0, 99, 9999);
        x.sale(999, 39, 39, 0, 99, 9999);
        int[][] due = {{0, 0, 0, 0, 1, 1, 1, 4, 0, 0}, {999, 40, 40, 0, 99, 9999, 99, 0, 0, 0},
            {999, 39, 39, 0, 99, 9999, 99, 4, 989900, 0}};
        for (int l = 0; l < due.length; l++) {
            for (int what = 0; what < 10; what++) {
                CHECK.told("line " + l + ", " + what, x, x.line(l, what), due[l][what], 0);
            }
        }
        CHECK.told("the next one", x, x.line(3, 0), -1, 1);
        CHECK.told("undo", x, undo(x), 1, 0);
        CHECK.told("an undone one", x, x.line(2, 0), -1, 1);
        x.refund(0, 1);
        CHECK.told("nothing left", x, x.line(0, 6), 0, 0);
        CHECK.told("units sold still", x, x.line(0, 4), 1, 0);
        CHECK.told("PARTS still", x, x.line(0, 7), 4, 0);
        x.file(998);
        CHECK.told("FILED, with nothing left", x, x.line(0, 9), 1, 0);
        CHECK.told("a DAY behind it isn't", x, x.line(1, 9), 0, 0);
    }

    // "A LINE of THE BOOK (40 at most)"
    private static void linesAreFull() {
        SalePlaces x = Check.desk(FOUR);
        for (int l = 0; l < 40; l++) {
            CHECK.told("line " + l, x, x.sale(999, 39, 39, 0, 99, 9999), l, 0);
        }
        CHECK.told("one more", x, x.sale(999, 39, 39, 0, 99, 9999), -1, 3);
        CHECK.told("forty still", x, x.about(8), 40, 0);
        CHECK.told("the last", x, x.line(39, 8), 989900, 0);
        CHECK.told("none behind it", x, x.line(40, 8), -1, 1);
        CHECK.told("all together", x, x.taxes(-1, -1), 40 * 989900, 0);
        CHECK.told("of one PLACE", x, x.taxes(3, 0), 40 * 247475, 0);
        CHECK.same("what can be undone", x.size(1), 8);
        CHECK.same("units", x.size(2), 40 * 99);
        CHECK.told("pending", x, x.pending(999, -1), 40 * 989900, 0);
        CHECK.told("the last is refunded", x, x.refund(39, 99), 989900, 0);
        CHECK.told("that makes no room", x, x.sale(999, 39, 39, 0, 1, 1), -1, 3);
        CHECK.told("file", x, x.file(999), 39 * 989900, 0);
        CHECK.told("FILED ahead of no room", x, x.sale(999, 39, 39, 0, 1, 1), -1, 5);
        CHECK.told("how many it FILED", x, x.filing(0, 1), 40, 0);
        undo(x);
        undo(x);
        undo(x);
        CHECK.told("39 are left", x, x.about(8), 39, 0);
        CHECK.told("room for one", x, x.sale(1, 40, 40, 0, 1, 1), 39, 0);
        CHECK.told("its row is its own", x, x.line(39, 7), 0, 0);
        CHECK.told("and no more", x, x.sale(1, 40, 40, 0, 1, 1), -1, 3);
    }

    // "Of the i-th PART 0 PLACE, 1 RATE, 2 CAP (-2 none), 3 1 if it is FREE, 4 BASE, 5 TAX, both of the units left.
    // NONE: 1 (i, what, too)."
    private static void part() {
        SalePlaces x = Check.desk(FOUR + ";cap s c 1;cap r c 9999;holiday q c 999 999 price 9999");
        x.sale(999, 0, 0, 0, 99, 9999);
        int[][] due = {{0, 2500, -2, 0, 989901, 247475}, {1, 2500, -2, 1, 0, 0}, {2, 2500, 9999, 0, 989901, 247475},
            {3, 2500, 1, 0, 99, 25}};
        for (int i = 0; i < 4; i++) {
            for (int what = 0; what < 6; what++) {
                CHECK.told("part " + i + ", " + what, x, x.part(0, i, what), due[i][what], 0);
            }
        }
        CHECK.told("a fifth", x, x.part(0, 4, 0), -1, 1);
        x.refund(0, 98);
        CHECK.told("BASE of one unit", x, x.part(0, 0, 4), 9999, 0);
        CHECK.told("TAX of one unit", x, x.part(0, 0, 5), 2500, 0);
        x.refund(0, 1);
        for (int i = 0; i < 4; i++) {
            CHECK.told("PLACE still", x, x.part(0, i, 0), i, 0);
            CHECK.told("BASE of none", x, x.part(0, i, 4), 0, 0);
            CHECK.told("TAX of none", x, x.part(0, i, 5), 0, 0);
            CHECK.told("FREE still", x, x.part(0, i, 3), i == 1 ? 1 : 0, 0);
        }
        x.sale(999, 40, 0, 0, 1, 1);
        CHECK.told("the first of no PARTS", x, x.part(1, 0, 0), -1, 1);
        CHECK.told("of no LINE", x, x.part(2, 0, 0), -1, 1);
    }

    // "its PARTS, RATES, CAPS, FREE ones are as they were when it was booked, whatever moves later."
    private static void asTheyWereBooked() {
        SalePlaces x = Check.desk("desk size 9 layers 1;class c;place p layer 0;place q layer 0;"
                + "bound p 0 0 0 5 0 5 5 0 5;rate p c 0 1000;rate q c 0 500;bound q 0 0 0 9 0 9 9 0 9");
        x.sale(5, 1, 1, 0, 10, 100);
        x.move(0, 5, 4, 4);
        x.turn(0, 0, 1, 2500);
        CHECK.told("where it is SETTLED now", x, x.settled(0, 5, 1, 1), 1, 0);
        CHECK.told("its PLACE still", x, x.part(0, 0, 0), 0, 0);
        CHECK.told("its RATE still", x, x.part(0, 0, 1), 1000, 0);
        CHECK.told("a refund by it", x, x.refund(0, 1), 10, 0);
        CHECK.told("what a new one comes to", x, x.due(5, 1, 1, 0, 9, 100), 45, 0);
        undo(x);
        undo(x);
        undo(x);
        CHECK.told("undone, it is as it was", x, x.line(0, 8), 100, 0);
        CHECK.told("and not WRONG", x, x.owed(0), 0, 0);
    }

    // "So many units of a LINE (1 .. those left) are REFUNDED: by how much its DUE is less. NONE: 1; 2."
    private static void refunds() {
        SalePlaces x = Check.desk(FOUR);
        x.sale(0, 0, 0, 0, 99, 2);
        for (int units : new int[] {LOW, -1, 0, 100, HIGH}) {
            CHECK.told("refund of " + units, x, x.refund(0, units), -1, 2);
            CHECK.told("all are left", x, x.line(0, 6), 99, 0);
        }
        // A half of one upwards: of 99 units 50 each, of 98 49, of 1 1, of 0 0.
        CHECK.told("1", x, x.refund(0, 1), 4, 0);
        CHECK.told("99 aren't left", x, x.refund(0, 99), -1, 2);
        CHECK.told("one less makes no less", x, x.refund(0, 1), 0, 0);
        CHECK.told("96", x, x.refund(0, 96), 4 * (49 - 1), 0);
        CHECK.told("2 of 1", x, x.refund(0, 2), -1, 2);
        CHECK.told("the last", x, x.refund(0, 1), 4, 0);
        CHECK.told("none is left", x, x.refund(0, 1), -1, 2);
        CHECK.told("0 of none", x, x.refund(0, 0), -1, 2);
        x.sale(0, 0, 0, 0, 99, 9999);
        CHECK.told("all at once", x, x.refund(1, 99), 989900, 0);
        CHECK.told("what is left", x, x.line(1, 8), 0, 0);
        x.sale(0, 40, 40, 0, 1, 9999);
        CHECK.told("of nobody's", x, x.refund(2, 1), 0, 0);
    }

    // "How many ENTRIES THE LEDGER has." and "Of the i-th 0 PLACE, 1 CLASS, 2 TAXES."
    private static void entries() {
        SalePlaces x = Check.desk(FOUR);
        CHECK.told("an empty LEDGER", x, x.entries(), 0, 0);
        CHECK.told("its first", x, x.entry(0, 0), -1, 1);
        x.sale(0, 40, 0, 0, 1, 1);
        CHECK.told("of a LINE without PARTS", x, x.entries(), 0, 0);
        x.sale(0, 0, 0, 0, 1, 1);
        CHECK.told("those of 0, too", x, x.entries(), 4, 0);
        for (int i = 0; i < 4; i++) {
            CHECK.told("the PLACE of " + i, x, x.entry(i, 0), i, 0);
            CHECK.told("the TAXES of " + i, x, x.entry(i, 2), 0, 0);
        }
        x.refund(1, 1);
        CHECK.told("of a LINE with nothing left, too", x, x.entries(), 4, 0);
        undo(x);
        undo(x);
        CHECK.told("not of one undone", x, x.entries(), 0, 0);
    }

    // "ENTRIES in the order in which each came first": all of 10 PLACES and 6 CLASSES.
    private static void ledgerIsFull() {
        StringBuilder text = new StringBuilder("desk size 6 layers 4;class a;class b;class c;class d;class e;class f");
        int[] layers = {3, 3, 3, 2, 2, 2, 1, 1, 0, 0};
        int[] west = {0, 2, 4, 0, 2, 4, 0, 2, 0, 4};
        for (int p = 0; p < 10; p++) {
            char name = (char) ('k' + p);
            int east = west[p] + 2;
            text.append(";place ").append(name).append(" layer ").append(layers[p]);
            text.append(";bound ").append(name).append(" 0 ").append(west[p]).append(" 0 ").append(east).append(" 0 ")
                    .append(east).append(" 6 ").append(west[p]).append(" 6;rate ").append(name).append(" a 0 1000");
        }
        SalePlaces x = Check.desk(text.toString());
        // By LAYERS rising: at 4 PLACES 9, 5, 2, at 0 PLACES 8, 6, 3, 0, at 2 PLACES 7, 4, 1.
        int[] order = {9, 5, 2, 8, 6, 3, 0, 7, 4, 1};
        for (int c = 5; c >= 0; c--) {
            x.sale(1, 4, 0, c, 1, 100);
            x.sale(1, 0, 0, c, 2, 100);
            x.sale(1, 2, 0, c, 3, 100);
            x.sale(1, 4, 5, c, 4, 100);
        }
        int[] taxes = {50, 50, 50, 20, 20, 20, 20, 30, 30, 30};
        CHECK.told("sixty", x, x.entries(), 60, 0);
        for (int i = 0; i < 60; i++) {
            CHECK.told("the PLACE of " + i, x, x.entry(i, 0), order[i % 10], 0);
            CHECK.told("the CLASS of " + i, x, x.entry(i, 1), 5 - i / 10, 0);
            CHECK.told("the TAXES of " + i, x, x.entry(i, 2), i < 50 ? 0 : taxes[i % 10], 0);
        }
        CHECK.told("none behind it", x, x.entry(60, 0), -1, 1);
    }

    // "TAXES of a PLACE (-1: of all) for a CLASS (-1: all). NONE: 1."
    private static void taxes() {
        SalePlaces x = Check.desk(Desks.PLAIN);
        CHECK.told("of nothing", x, x.taxes(-1, -1), 0, 0);
        CHECK.told("of nothing, by PLACE and CLASS", x, x.taxes(1, 1), 0, 0);
        x.sale(0, 0, 0, 0, 1, 1000);
        x.sale(0, 0, 0, 1, 1, 100);
        int[][] due = {{-1, -1, 160}, {-1, 0, 150}, {-1, 1, 10}, {0, -1, 110}, {1, -1, 50}, {0, 0, 100}, {0, 1, 10},
            {1, 0, 50}, {1, 1, 0}};
        for (int[] row : due) {
            CHECK.told("taxes " + row[0] + " " + row[1], x, x.taxes(row[0], row[1]), row[2], 0);
        }
        x.file(0);
        CHECK.told("FILED ones, too", x, x.taxes(-1, -1), 160, 0);
        x.refund(0, 1);
        CHECK.told("of the units left", x, x.taxes(-1, -1), 10, 0);
    }

    // "How many FILINGS." and "Of the i-th 0 its DAY, 1 how many LINES it FILED."
    private static void filings() {
        SalePlaces x = Check.desk(Desks.PLAIN);
        CHECK.told("none", x, x.filings(), 0, 0);
        CHECK.told("the first of none", x, x.filing(0, 0), -1, 1);
        CHECK.told("pays of none", x, x.pays(0, -1), LOW, 1);
        CHECK.told("of an empty BOOK", x, x.file(0), 0, 0);
        CHECK.told("its DAY", x, x.filing(0, 0), 0, 0);
        CHECK.told("its LINES", x, x.filing(0, 1), 0, 0);
        CHECK.told("a second", x, x.filing(1, 0), -1, 1);
        CHECK.told("on the last DAY", x, x.file(999), 0, 0);
        CHECK.told("its DAY, too", x, x.filing(1, 0), 999, 0);
        CHECK.told("none behind the last DAY", x, x.file(999), LOW, 2);
        CHECK.told("none on the DAY behind it", x, x.file(1000), LOW, 2);
        CHECK.told("nothing can be pending", x, x.pending(999, -1), LOW, 2);
        CHECK.told("no SALE any more", x, x.sale(999, 0, 0, 0, 1, 1), -1, 5);
        CHECK.told("two", x, x.filings(), 2, 0);
    }

    // "Up to 12." and "Integer.MIN_VALUE: 1 (no DESK); 2 (likewise); 3."
    private static void filingsAreFull() {
        SalePlaces x = Check.desk(Desks.PLAIN);
        x.sale(900, 0, 0, 0, 1, 1000);
        for (int k = 0; k < 12; k++) {
            CHECK.told("filing " + k, x, x.file(10 * k), 0, 0);
        }
        String still = State.of(x);
        CHECK.told("a thirteenth", x, x.file(999), LOW, 3);
        CHECK.told("a thirteenth, no later than the latest", x, x.file(110), LOW, 2);
        CHECK.told("a thirteenth out of bounds", x, x.file(1000), LOW, 2);
        CHECK.text("nothing has changed", State.of(x), still);
        x = Check.desk(Desks.PLAIN);
        x.sale(900, 0, 0, 0, 1, 1000);
        for (int k = 0; k < 12; k++) {
            x.file(10 * k);
        }
        CHECK.told("what would be paid is told still", x, x.pending(900, -1), 150, 0);
        CHECK.told("the twelfth", x, x.filing(11, 0), 110, 0);
        CHECK.told("a thirteenth isn't told", x, x.filing(12, 0), -1, 1);
        CHECK.told("nor what it pays", x, x.pays(12, -1), LOW, 1);
        CHECK.told("undo", x, undo(x), 1, 0);
        CHECK.told("eleven", x, x.filings(), 11, 0);
        CHECK.told("room for one", x, x.file(900), 150, 0);
        CHECK.told("and no more", x, x.file(901), LOW, 3);
    }

    // "A FILING up to a DAY: LINES of DAYS up to it that aren't FILED are FILED then"
    private static void filedUpToADay() {
        SalePlaces x = Check.desk(Desks.PLAIN);
        int[] days = {6, 0, 5, 999, 5};
        for (int l = 0; l < days.length; l++) {
            x.sale(days[l], 0, 0, 0, l + 1, 1000);
        }
        CHECK.told("pending up to 4", x, x.pending(4, -1), 300, 0);
        CHECK.told("pending up to 5", x, x.pending(5, -1), 150 * (2 + 3 + 5), 0);
        CHECK.told("up to 5", x, x.file(5), 150 * (2 + 3 + 5), 0);
        int[] due = {0, 1, 1, 0, 1};
        for (int l = 0; l < days.length; l++) {
            CHECK.told("FILED " + l, x, x.line(l, 9), due[l], 0);
        }
        CHECK.told("three", x, x.filing(0, 1), 3, 0);
        CHECK.told("up to 998", x, x.file(998), 150, 0);
        CHECK.told("one", x, x.filing(1, 1), 1, 0);
        CHECK.told("up to 999", x, x.file(999), 150 * 4, 0);
        CHECK.told("the last", x, x.filing(2, 1), 1, 0);
        CHECK.told("the first has three still", x, x.filing(0, 1), 3, 0);
    }

    // "it pays each PLACE TAXES of their units left, and CORRECTIONS: what REFUNDS of FILED LINES made less since
    // the FILING ahead."
    private static void corrections() {
        SalePlaces x = Check.desk(Desks.PLAIN);
        x.sale(0, 0, 0, 0, 9, 1000);
        x.refund(0, 1);
        CHECK.told("of the units left", x, x.file(0), 8 * 150, 0);
        x.refund(0, 1);
        x.refund(0, 2);
        CHECK.told("pending, of two REFUNDS", x, x.pending(1, -1), -450, 0);
        CHECK.told("pays them", x, x.file(1), -450, 0);
        CHECK.told("to p", x, x.pays(1, 0), -300, 0);
        CHECK.told("to q", x, x.pays(1, 1), -150, 0);
        CHECK.told("nothing since", x, x.pending(2, -1), 0, 0);
        x.refund(0, 5);
        x.sale(3, 3, 0, 0, 1, 100);
        CHECK.told("up to a DAY ahead of the new LINE", x, x.pending(2, -1), -750, 0);
        CHECK.told("together with it", x, x.pending(3, -1), -740, 0);
        CHECK.told("p's", x, x.pending(3, 0), -490, 0);
        CHECK.told("q's", x, x.pending(3, 1), -250, 0);
        CHECK.told("paid", x, x.file(2), -750, 0);
        CHECK.told("the LINE isn't FILED", x, x.line(1, 9), 0, 0);
        CHECK.told("what is left for the next", x, x.file(999), 10, 0);
        CHECK.told("the first is as it was", x, x.pays(0, -1), 1200, 0);
    }

    // "(All FILINGS and what is pending are TAXES of THE LEDGER.)" and "may be below 0"
    private static void payingAll() {
        SalePlaces x = Check.desk(FOUR);
        for (int l = 0; l < 40; l++) {
            x.sale(l / 8, 39, 39, 0, 99, 9999);
        }
        CHECK.told("the most", x, x.file(998), 40 * 989900, 0);
        CHECK.told("of one PLACE", x, x.pays(0, 3), 40 * 247475, 0);
        for (int l = 0; l < 40; l++) {
            x.refund(l, 99);
        }
        CHECK.told("the least is pending", x, x.pending(999, -1), -40 * 989900, 0);
        CHECK.told("the least", x, x.file(999), -40 * 989900, 0);
        CHECK.told("of one PLACE, the least", x, x.pays(1, 0), -40 * 247475, 0);
        CHECK.told("nothing is left", x, x.taxes(-1, -1), 0, 0);
        x = Check.desk(Desks.PLAIN);
        x.sale(0, 0, 0, 0, 9, 1000);
        x.sale(5, 0, 0, 0, 7, 1000);
        x.sale(9, 3, 0, 1, 5, 1000);
        x.file(0);
        x.refund(0, 2);
        x.file(5);
        x.refund(1, 3);
        for (int p = -1; p < 2; p++) {
            int paid = x.pays(0, p) + x.pays(1, p) + x.pending(999, p);
            CHECK.told("all together of " + p, x, x.taxes(p, -1), paid, 0);
        }
    }

    // "No SALE is booked any more on a DAY up to the latest FILING's."
    private static void noSaleOnFiledDays() {
        SalePlaces x = Check.desk(Desks.PLAIN);
        x.file(5);
        CHECK.told("on the first DAY", x, x.sale(0, 0, 0, 0, 1, 1), -1, 5);
        CHECK.told("on its DAY", x, x.sale(5, 0, 0, 0, 1, 1), -1, 5);
        CHECK.told("on the DAY behind it", x, x.sale(6, 0, 0, 0, 1, 1), 0, 0);
        x.file(6);
        CHECK.told("FILED, too", x, x.sale(6, 0, 0, 0, 1, 1), -1, 5);
        CHECK.told("undo", x, undo(x), 1, 0);
        CHECK.told("on that DAY again", x, x.sale(6, 0, 0, 0, 1, 1), 1, 0);
        CHECK.told("but not on the first FILING's", x, x.sale(5, 0, 0, 0, 1, 1), -1, 5);
        CHECK.told("a bound may be moved on a DAY that is FILED", x, x.move(0, 1, 0, 0), 2, 0);
        CHECK.told("a RATE may be turned on it", x, x.turn(0, 0, 1, 0), 4, 0);
        CHECK.told("a FILED LINE may be refunded", x, x.refund(0, 1), 0, 0);
    }

    // "How many LINES are WRONG." and "WRONG is a LINE whose DUE of the units left would be another one"
    private static void wrong() {
        SalePlaces x = Check.desk(FOUR);
        CHECK.told("none of none", x, x.wrong(), 0, 0);
        for (int l = 0; l < 40; l++) {
            x.sale(500, 39, 39, 0, 1, 10);
        }
        CHECK.told("none of forty", x, x.wrong(), 0, 0);
        x.turn(0, 0, 501, 0);
        CHECK.told("turned on the DAY behind", x, x.wrong(), 0, 0);
        undo(x);
        x.turn(0, 0, 500, 0);
        CHECK.told("turned on their DAY", x, x.wrong(), 40, 0);
        x.refund(39, 1);
        CHECK.told("one of them with nothing left", x, x.wrong(), 39, 0);
        undo(x);
        CHECK.told("undone", x, x.wrong(), 40, 0);
        undo(x);
        CHECK.told("all undone", x, x.wrong(), 0, 0);
        x = Check.desk("desk size 4 layers 1;class c;place p layer 0;place q layer 0;bound p 0 0 0 1 0 1 1 0 1;"
                + "bound q 0 0 0 4 0 4 4 0 4;rate p c 0 500;rate q c 0 500");
        x.sale(5, 0, 0, 0, 1, 100);
        x.move(0, 5, 1, 0);
        CHECK.told("another PLACE has it, with as much DUE", x, x.wrong(), 0, 0);
        undo(x);
        x.turn(0, 0, 3, 549);
        CHECK.told("rounded to the same", x, x.wrong(), 0, 0);
        CHECK.told("nothing is owed", x, x.owed(0), 0, 0);
        x.turn(0, 0, 4, 550);
        CHECK.told("a half more", x, x.wrong(), 1, 0);
        CHECK.told("is owed", x, x.owed(0), 1, 0);
    }

    // "By how much DUE of a LINE's units left would be more, were it booked now. Integer.MIN_VALUE: 1."
    private static void owed() {
        SalePlaces x = Check.desk("desk size 40 layers 1;class c;place p layer 0;bound p 0 0 0 40 0 40 40 0 40;"
                + "rate p c 0 2500");
        CHECK.told("of none", x, x.owed(0), LOW, 1);
        x.sale(5, 39, 39, 0, 99, 9999);
        x.turn(0, 0, 5, 0);
        CHECK.told("the least of one PLACE", x, x.owed(0), -247475, 0);
        x.refund(0, 98);
        CHECK.told("of one unit", x, x.owed(0), -2500, 0);
        x.refund(0, 1);
        CHECK.told("of none left", x, x.owed(0), 0, 0);
        x.sale(5, 39, 39, 0, 99, 9999);
        x.turn(0, 0, 6, 2500);
        CHECK.told("turned behind its DAY", x, x.owed(1), 0, 0);
        x.file(5);
        CHECK.told("of a DAY that is FILED", x, x.owed(0), 0, 0);
        CHECK.told("of no LINE", x, x.owed(2), LOW, 1);
        x = Check.desk("desk size 40 layers 1;class c;place p layer 0;rate p c 0 2500;bound p 0 0 0 1 0 1 1 0 1");
        x.sale(5, 39, 39, 0, 99, 9999);
        CHECK.told("of nobody's", x, x.line(0, 8), 0, 0);
        x.move(0, 5, 39, 39);
        CHECK.told("the most of one PLACE", x, x.owed(0), 247475, 0);
        CHECK.told("is WRONG", x, x.wrong(), 1, 0);
    }

    // "A new bound of a PLACE from a DAY on, that of the latest DAY moved east by dx, south by dy (-40 .. 40; Y more
    // is south): how many bounds it has." and "2 (the DAY isn't behind that of the latest"
    private static void move() {
        SalePlaces x = Check.desk("desk size 40 layers 1;class c;place p layer 0;place q layer 0;bound p 5 0 0 0 0 0 0;"
                + "bound q 999 0 0 1 0 1 1");
        CHECK.told("ahead of the latest", x, x.move(0, 4, 0, 0), -1, 2);
        CHECK.told("on its DAY", x, x.move(0, 5, 0, 0), -1, 2);
        CHECK.told("the DAY behind it, all the way", x, x.move(0, 6, 40, 40), 2, 0);
        CHECK.told("east", x, x.corner(0, 6, 2, 0), 40, 0);
        CHECK.told("south", x, x.corner(0, 6, 2, 1), 40, 0);
        CHECK.told("the bound ahead", x, x.corner(0, 5, 2, 1), 0, 0);
        CHECK.told("back, on the last DAY", x, x.move(0, 999, -40, -40), 3, 0);
        CHECK.told("west", x, x.corner(0, 999, 0, 0), 0, 0);
        CHECK.told("north", x, x.corner(0, 999, 0, 1), 0, 0);
        CHECK.told("on the DAY ahead of that", x, x.corner(0, 998, 0, 0), 40, 0);
        CHECK.told("none behind the last DAY", x, x.move(0, 1000, 0, 0), -1, 2);
        CHECK.told("none of q's, either", x, x.move(1, 999, 0, 0), -1, 2);
    }

    // "dx, dy; some CORNER would leave 0 .. SIZE)" and "5 (it has no bound, or none of area the latest)"
    private static void movedTooFar() {
        String text = "desk size 10 layers 1;class c;place p layer 0;place q layer 0;place r layer 0;"
                + "bound p 0 2 3 6 3 6 9 4 5;bound q 0 1 1 2 2 3 1;bound q 4 none";
        int[][] due = {{-2, 0, 0}, {-3, 0, 2}, {4, 0, 0}, {5, 0, 2}, {0, -3, 0}, {0, -4, 2}, {0, 1, 0}, {0, 2, 2},
            {-2, -3, 0}, {4, 1, 0}, {40, 0, 2}, {-40, 0, 2}, {0, 40, 2}, {0, -40, 2}, {41, 0, 2}, {0, -41, 2},
            {HIGH, 0, 2}, {LOW, 0, 2}, {0, HIGH, 2}, {0, LOW, 2}, {HIGH, HIGH, 2}, {LOW, LOW, 2}};
        for (int[] row : due) {
            SalePlaces x = Check.desk(text);
            CHECK.told("by " + row[0] + " " + row[1], x, x.move(0, 1, row[0], row[1]), row[2] == 0 ? 2 : -1, row[2]);
            CHECK.told("bounds", x, x.place(0, 2), row[2] == 0 ? 2 : 1, 0);
        }
        int[][] without = {{1, 5, 0, 0, 5}, {1, 5, 40, -40, 5}, {1, 4, 0, 0, 2}, {1, 5, 41, 0, 2}, {1, 5, 0, -41, 2},
            {1, 1000, 0, 0, 2}, {2, 0, 0, 0, 5}, {2, 999, -40, 40, 5}, {2, -1, 0, 0, 2}, {2, 1000, 0, 0, 2},
            {2, 0, -41, 0, 2}, {2, 0, 0, 41, 2}, {3, -1, 41, 41, 1}};
        for (int[] row : without) {
            SalePlaces x = Check.desk(text);
            CHECK.told("without area, " + row[0] + " on " + row[1], x, x.move(row[0], row[1], row[2], row[3]), -1,
                    row[4]);
            CHECK.told("bounds", x, x.about(4), 3, 0);
        }
    }

    // "3 (16 of all)"
    private static void boundsAreFull() {
        SalePlaces x = Check.desk("desk size 10 layers 1;class c;place p layer 0;place q layer 0;place r layer 0;"
                + "bound p 0 0 0 5 0 5 5;bound q 0 0 0 5 0 5 5");
        for (int day = 1; day < 15; day++) {
            CHECK.told("on " + day, x, x.move(day % 2, day, 0, 0), (day + 1) / 2 + 1, 0);
        }
        String still = State.of(x);
        CHECK.told("a seventeenth of p", x, x.move(0, 20, 1, 1), -1, 3);
        CHECK.told("a seventeenth of q", x, x.move(1, 20, 1, 1), -1, 3);
        CHECK.told("the DAY ahead of it", x, x.move(0, 14, 1, 1), -1, 2);
        CHECK.told("a CORNER ahead of it", x, x.move(0, 20, 6, 0), -1, 2);
        CHECK.told("no bound ahead of it", x, x.move(2, 20, 0, 0), -1, 5);
        CHECK.told("no such PLACE", x, x.move(3, 20, 0, 0), -1, 1);
        CHECK.text("nothing has changed", State.of(x), still);
        CHECK.told("undo", x, undo(x), 1, 0);
        CHECK.told("room for one", x, x.move(1, 20, 5, 5), 9, 0);
        CHECK.told("and no more", x, x.move(0, 20, 0, 0), -1, 3);
        CHECK.told("sixteen", x, x.about(4), 16, 0);
    }

    // "A new RATE of a PLACE for a CLASS from a DAY on (0 .. 2,500): how many rates there are. NONE: 1; 2 (the DAY
    // isn't behind that of the latest for the same two; the RATE); 3 (20)."
    private static void turn() {
        SalePlaces x = Check.desk("desk size 4 layers 1;class c;class d of c;place p layer 0;place q layer 0;"
                + "rate p c 5 100;rate q d 999 7");
        CHECK.told("ahead of the latest", x, x.turn(0, 0, 4, 1), -1, 2);
        CHECK.told("on its DAY", x, x.turn(0, 0, 5, 1), -1, 2);
        CHECK.told("the DAY behind it, the most", x, x.turn(0, 0, 6, 2500), 3, 0);
        CHECK.told("from that DAY on", x, x.rate(0, 0, 6), 2500, 0);
        CHECK.told("not ahead of it", x, x.rate(0, 0, 5), 100, 0);
        CHECK.told("the CLASS of it has it, too", x, x.rate(0, 1, 6), 2500, 0);
        CHECK.told("for another CLASS from the first DAY on, the least", x, x.turn(0, 1, 0, 0), 4, 0);
        CHECK.told("its own is 0 then", x, x.rate(0, 1, 6), 0, 0);
        CHECK.told("of another PLACE from the first DAY on", x, x.turn(1, 0, 0, 1), 5, 0);
        CHECK.told("none behind the last DAY", x, x.turn(1, 1, 999, 1), -1, 2);
        CHECK.told("nor on the DAY behind it", x, x.turn(1, 1, 1000, 1), -1, 2);
        CHECK.told("on the last DAY", x, x.turn(0, 0, 999, 1), 6, 0);
        CHECK.told("a RATE of 2,501", x, x.turn(1, 0, 5, 2501), -1, 2);
        CHECK.told("a RATE of -1", x, x.turn(1, 0, 5, -1), -1, 2);
        CHECK.told("six", x, x.about(5), 6, 0);
    }

    private static void ratesAreFull() {
        SalePlaces x = Check.desk("desk size 4 layers 1;class c;class d;place p layer 0;place q layer 0;rate p c 0 1");
        for (int k = 1; k < 20; k++) {
            CHECK.told("rate " + k, x, x.turn(k % 2, k / 2 % 2, k, k), k + 1, 0);
        }
        String still = State.of(x);
        CHECK.told("one more", x, x.turn(0, 0, 500, 1), -1, 3);
        CHECK.told("the DAY ahead of it", x, x.turn(1, 1, 19, 1), -1, 2);
        CHECK.told("the RATE ahead of it", x, x.turn(1, 1, 20, 2501), -1, 2);
        CHECK.told("no such CLASS", x, x.turn(0, 2, 500, 1), -1, 1);
        CHECK.text("nothing has changed", State.of(x), still);
        CHECK.told("undo", x, undo(x), 1, 0);
        CHECK.told("the one ahead has its RATE", x, x.rate(1, 1, 999), 15, 0);
        CHECK.told("room for one", x, x.turn(0, 0, 500, 9), 20, 0);
        CHECK.told("and no more", x, x.turn(0, 0, 501, 9), -1, 3);
    }

    // "UNDO: true; false: 1 (there is nothing)."
    private static void undoNothing() {
        SalePlaces x = new SalePlaces();
        CHECK.told("without a DESK", x, undo(x), 0, 1);
        x = Check.desk(Desks.PLAIN);
        CHECK.told("of a new DESK", x, undo(x), 0, 1);
        x.sale(1000, 0, 0, 0, 1, 1);
        x.refund(0, 1);
        x.move(0, 0, 0, 0);
        x.turn(0, 0, 0, 0);
        x.file(1000);
        x.due(0, 0, 0, 0, 1, 1);
        x.pending(0, -1);
        CHECK.told("of refused calls", x, undo(x), 0, 1);
        CHECK.told("each ACT once", x, x.file(0), 0, 0);
        CHECK.told("true", x, undo(x), 1, 0);
        CHECK.told("not again", x, undo(x), 0, 1);
        CHECK.told("nothing has changed by it", x, x.filings(), 0, 0);
    }

    // "UNDO: the latest not undone yet (8 are kept)."
    private static void eightAreKept() {
        for (int acts = 7; acts <= 10; acts++) {
            SalePlaces x = Check.desk(Desks.PLAIN);
            for (int k = 0; k < acts; k++) {
                x.turn(1, 1, k, k + 1);
                CHECK.same("kept", x.size(1), Math.min(8, k + 1));
            }
            int undone = 0;
            while (undone < 20 && x.undo()) {
                undone++;
                CHECK.same("kept still", x.size(1), Math.min(8, acts) - undone);
                CHECK.same("rates", x.about(5), 3 + acts - undone);
            }
            CHECK.same("undone of " + acts, undone, Math.min(8, acts));
            CHECK.same("the RATE that stands", x.rate(1, 1, 999), acts - undone);
            CHECK.told("a new ACT", x, x.turn(1, 1, 100, 77), 3 + acts - undone + 1, 0);
            CHECK.told("undone", x, undo(x), 1, 0);
            CHECK.told("what wasn't kept isn't undone", x, undo(x), 0, 1);
        }
        // One of each sort, with the ninth ahead of them.
        String[] states = new String[9];
        for (int k = 0; k < 9; k++) {
            states[k] = State.of(upTo(k));
        }
        for (int k = 8; k > 0; k--) {
            SalePlaces y = upTo(8);
            for (int back = 8; back > k; back--) {
                CHECK.told("undo " + back, y, undo(y), 1, 0);
            }
            CHECK.text("back to " + k, tail(State.of(y)), tail(states[k]));
        }
    }

    // A SALE that isn't kept any more, and so many of eight ACTS of all sorts.
    private static SalePlaces upTo(int acts) {
        SalePlaces x = Check.desk(Desks.PLAIN);
        x.sale(0, 0, 0, 0, 9, 1000);
        for (int k = 1; k <= acts; k++) {
            switch (k) {
                case 1 -> x.sale(2, 1, 1, 0, 5, 100);
                case 2 -> x.refund(0, 4);
                case 3 -> x.file(1);
                case 4 -> x.refund(0, 5);
                case 5 -> x.move(1, 1, 1, 0);
                case 6 -> x.turn(0, 0, 1, 2000);
                case 7 -> x.file(2);
                default -> x.refund(1, 5);
            }
        }
        return x;
    }

    // What can be undone is another number, as the first SALE is kept no longer behind eight ACTS.
    private static String tail(String state) {
        String[] words = state.split(" ");
        words[4] = "";
        return String.join(" ", words);
    }

    // Rows that were full have their room again.
    private static void undoFullRows() {
        SalePlaces x = Check.desk(Desks.PLAIN);
        for (int l = 0; l < 40; l++) {
            x.sale(0, 0, 0, 0, 1, 1000);
        }
        for (int k = 0; k < 8; k++) {
            CHECK.told("undo", x, undo(x), 1, 0);
        }
        CHECK.told("32 are left", x, x.about(8), 32, 0);
        CHECK.told("no more", x, undo(x), 0, 1);
        for (int l = 32; l < 40; l++) {
            CHECK.told("again", x, x.sale(0, 0, 0, 1, 1, 1000), l, 0);
        }
        CHECK.told("full again", x, x.sale(0, 0, 0, 1, 1, 1000), -1, 3);
        CHECK.told("the ENTRIES", x, x.entries(), 4, 0);
    }

    private static int idle(SalePlaces x, int i) {
        try {
            return x.idle(i);
        } catch (NoSuchElementException e) {
            return -9;
        }
    }

    // "The i-th PLACE, by numbers, that is in no PART of any LINE. NoSuchElementException if there is none such."
    private static void idle() {
        SalePlaces x = new SalePlaces();
        CHECK.same("without a DESK", idle(x, 0), -9);
        CHECK.same("without a DESK, -1", idle(x, -1), -9);
        StringBuilder text = new StringBuilder("desk size 4 layers 4;class c");
        for (int p = 0; p < 10; p++) {
            text.append(";place ").append((char) ('k' + p)).append(" layer ").append(p % 4);
        }
        text.append(";bound k 0 0 0 4 0 4 4 0 4;bound t 0 0 0 4 0 4 4 0 4;bound m 0 0 0 4 0 4 4 0 4");
        x = Check.desk(text.toString());
        int[] tried = {LOW, LOW + 1, -1, 10, 11, HIGH - 1, HIGH};
        for (int i : tried) {
            CHECK.same("of ten, " + i, idle(x, i), -9);
        }
        for (int i = 0; i < 10; i++) {
            CHECK.same("of ten, " + i, idle(x, i), i);
        }
        x.sale(0, 0, 0, 0, 1, 1);
        int[] left = {1, 3, 4, 5, 6, 7, 8};
        for (int i = 0; i < left.length; i++) {
            CHECK.same("of seven, " + i, idle(x, i), left[i]);
        }
        CHECK.same("an eighth", idle(x, 7), -9);
        for (int i : tried) {
            CHECK.same("of seven, " + i, idle(x, i), -9);
        }
        // None is idle.
        x = Check.desk(Desks.PLAIN);
        x.sale(0, 0, 0, 0, 1, 1);
        CHECK.same("none", idle(x, 0), -9);
        x.refund(0, 1);
        CHECK.same("none, with nothing left", idle(x, 0), -9);
        undo(x);
        undo(x);
        CHECK.same("both again", idle(x, 1), 1);
    }

    // "0 bytes of THE TAPE, 1 what can be undone, 2 units left of all LINES. NONE for others; 0 for what there
    // isn't."
    private static void size() {
        SalePlaces x = new SalePlaces();
        for (int what : new int[] {LOW, -1, 3, 4, HIGH}) {
            CHECK.same("size(" + what + ")", x.size(what), -1);
        }
        for (int what = 0; what < 3; what++) {
            CHECK.same("size(" + what + ") without a DESK", x.size(what), 0);
        }
        CHECK.same("it can't be refused", x.trouble(), 0);
        x = Check.desk(Desks.PLAIN);
        for (int what = 0; what < 3; what++) {
            CHECK.same("size(" + what + ") of a new DESK", x.size(what), 0);
        }
        x.sale(0, 4, 4, 0, 99, 1);
        CHECK.same("units of nobody's LINE", x.size(2), 99);
        x.refund(0, 99);
        CHECK.same("none left", x.size(2), 0);
        CHECK.same("two ACTS", x.size(1), 2);
        undo(x);
        CHECK.same("undone", x.size(2), 99);
    }

    // "TROUBLE of the latest call that may be refused (those of which a number is told here): 0 it wasn't"
    private static void trouble() {
        SalePlaces x = new SalePlaces();
        CHECK.same("of a new object", x.trouble(), 0);
        x.entries();
        CHECK.same("1", x.trouble(), 1);
        x.feed(0, 0, 0, 0, 0);
        idle(x, 0);
        x.size(0);
        x.size(7);
        x.fault();
        x.where();
        x.trouble();
        CHECK.same("1 still", x.trouble(), 1);
        x.desk(21);
        CHECK.same("2", x.trouble(), 2);
        x.desk(20);
        CHECK.same("4", x.trouble(), 4);
        CHECK.same("a DESK", Check.read(x, Desks.PLAIN), 2);
        CHECK.same("0", x.trouble(), 0);
        x.overlap(0, 1, 0);
        CHECK.same("5", x.trouble(), 5);
        for (int l = 0; l <= 40; l++) {
            x.sale(0, 4, 4, 0, 1, 1);
        }
        CHECK.same("3", x.trouble(), 3);
        idle(x, 99);
        CHECK.same("3 still", x.trouble(), 3);
        undo(x);
        CHECK.same("0 of undo", x.trouble(), 0);
    }
}
