/**
 * Term II on RATE, FREE, CAP and a SALE, and promises 22 to 28, at their edges: each group of checks stands for
 * one sentence of the document, which is quoted above it.
 */
public final class SaleEdgesTest {
    private static final Check CHECK = new Check();
    /** Six CLASSES, each of the one ahead; one PLACE over all but the last POINTS. */
    private static final String CHAIN = "desk size 4 layers 1;class a;class b of a;class c of b;class d of c;"
            + "class e of d;class f of e;place p layer 0;bound p 0 0 0 4 0 4 4 0 4";
    /** One PLACE and one CLASS. */
    private static final String ONE = "desk size 4 layers 1;class c;place p layer 0;bound p 0 0 0 4 0 4 4 0 4";
    /** Four PLACES over all of SIZE 40. */
    private static final String FOUR = "desk size 40 layers 4;class c;place p layer 0;place q layer 1;place r layer 2;"
            + "place s layer 3;bound p 0 0 0 40 0 40 40 0 40;bound q 0 0 0 40 0 40 40 0 40;"
            + "bound r 0 0 0 40 0 40 40 0 40;bound s 0 0 0 40 0 40 40 0 40";

    public static void main(String[] args) {
        rateFromADayOn();
        rateOfTheOneAbove();
        freeDays();
        freePrices();
        freeClasses();
        caps();
        stackRate();
        cheapest();
        baseOfAPart();
        taxToTheNearest();
        dueOfAll();
        dueIsNotBooked();
        bestDay();
        bestOfManyDays();
        CHECK.end();
    }

    // "RATE of a PLACE for a CLASS on a DAY: that told for it from the latest DAY no later"
    private static void rateFromADayOn() {
        SalePlaces x = Check.desk(ONE + ";rate p c 1 2500;rate p c 2 0;rate p c 999 7");
        int[][] due = {{0, 0}, {1, 2500}, {2, 0}, {3, 0}, {998, 0}, {999, 7}};
        for (int[] row : due) {
            CHECK.told("on " + row[0], x, x.rate(0, 0, row[0]), row[1], 0);
        }
    }

    // "without one that of the CLASS it is of, and so on; else 0."
    private static void rateOfTheOneAbove() {
        SalePlaces x = Check.desk(CHAIN + ";rate p a 5 100;rate p c 8 0;rate p f 9 60;rate p e 999 5");
        int[][] due = {{4, 0, 0, 0, 0, 0, 0}, {5, 100, 100, 100, 100, 100, 100}, {8, 100, 100, 0, 0, 0, 0},
            {9, 100, 100, 0, 0, 0, 60}, {999, 100, 100, 0, 0, 5, 60}};
        for (int[] row : due) {
            for (int c = 0; c < 6; c++) {
                CHECK.told("of " + c + " on " + row[0], x, x.rate(0, c, row[0]), row[c + 1], 0);
            }
        }
        x = Check.desk(CHAIN + ";place q layer 0;rate q a 0 100");
        CHECK.told("of another PLACE", x, x.rate(0, 5, 0), 0, 0);
        CHECK.told("the sixth is of the first", x, x.rate(1, 5, 0), 100, 0);
        x = Check.desk(CHAIN);
        CHECK.told("no rate at all", x, x.rate(0, 5, 999), 0, 0);
    }

    // "FREE on a DAY by a price: a holiday of the PLACE on that DAY"
    private static void freeDays() {
        SalePlaces x = Check.desk(ONE + ";holiday p c 5 9 price 50;holiday p c 0 0 price 1;"
                + "holiday p c 999 999 price 9999;holiday p c 20 20 price 5");
        int[][] due = {{0, 1}, {1, 0}, {4, 0}, {5, 1}, {9, 1}, {10, 0}, {19, 0}, {20, 1}, {21, 0}, {998, 0}, {999, 1}};
        for (int[] row : due) {
            CHECK.told("on " + row[0], x, x.free(0, 0, row[0], 1), row[1], 0);
        }
    }

    // "with the price at most PRICE" and "1 if it is FREE by a price (1 .. 9,999), 0."
    private static void freePrices() {
        SalePlaces x = Check.desk(ONE + ";holiday p c 0 0 price 1;holiday p c 1 1 price 9999;holiday p c 2 2 price 50;"
                + "holiday p c 2 2 price 40");
        int[][] due = {{0, 1, 1}, {0, 2, 0}, {0, 9999, 0}, {1, 1, 1}, {1, 9998, 1}, {1, 9999, 1}, {2, 1, 1}, {2, 40, 1},
            {2, 41, 1}, {2, 50, 1}, {2, 51, 0}};
        for (int[] row : due) {
            CHECK.told("by " + row[1] + " on " + row[0], x, x.free(0, 0, row[0], row[1]), row[2], 0);
        }
        CHECK.told("by 10,000 on a holiday", x, x.free(0, 0, 1, 10000), -1, 2);
        CHECK.told("by 0 on a holiday", x, x.free(0, 0, 1, 0), -1, 2);
    }

    // "for the CLASS or one it is of (and so on)"
    private static void freeClasses() {
        SalePlaces x = Check.desk(CHAIN + ";place q layer 0;holiday p a 1 1 price 5;holiday p f 2 2 price 5;"
                + "holiday p c 3 3 price 5");
        for (int c = 0; c < 6; c++) {
            CHECK.told("of the first, " + c, x, x.free(0, c, 1, 5), 1, 0);
            CHECK.told("of the sixth, " + c, x, x.free(0, c, 2, 5), c == 5 ? 1 : 0, 0);
            CHECK.told("of the third, " + c, x, x.free(0, c, 3, 5), c >= 2 ? 1 : 0, 0);
            CHECK.told("of another PLACE, " + c, x, x.free(1, c, 1, 5), 0, 0);
        }
    }

    // "CAP: that of the CLASS, else of the one it is of, and so on; else none." and "CAP; -2 none."
    private static void caps() {
        SalePlaces x = Check.desk(CHAIN + ";place q layer 0;cap p a 9999;cap p c 1;cap p f 500;cap q f 3");
        int[] ofP = {9999, 9999, 1, 1, 1, 500};
        int[] ofQ = {-2, -2, -2, -2, -2, 3};
        for (int c = 0; c < 6; c++) {
            CHECK.told("of p for " + c, x, x.cap(0, c), ofP[c], 0);
            CHECK.told("of q for " + c, x, x.cap(1, c), ofQ[c], 0);
        }
        x = Check.desk(CHAIN + ";cap p a 7");
        CHECK.told("of the first, for the sixth", x, x.cap(0, 5), 7, 0);
    }

    // "RATES of all PLACES of a POINT's STACK together."
    private static void stackRate() {
        String rates = ";rate p c 1 2500;rate q c 2 2500;rate r c 3 2500;rate s c 4 2500";
        SalePlaces x = Check.desk(FOUR + rates);
        for (int day = 0; day < 5; day++) {
            CHECK.told("on " + day, x, x.stackRate(day, 39, 39, 0), 2500 * day, 0);
            CHECK.told("where nobody taxes on " + day, x, x.stackRate(day, 40, 39, 0), 0, 0);
        }
        x = Check.desk(FOUR + rates + ";holiday p c 0 999 price 9999;cap q c 1");
        CHECK.told("whatever is FREE or has a CAP", x, x.stackRate(4, 0, 0, 0), 10000, 0);
    }

    // "The POINT with the least of these, by Y, then by X the first: X and 100 times Y."
    private static void cheapest() {
        SalePlaces x = Check.desk(FOUR + ";rate p c 1 1");
        CHECK.told("all alike: the first", x, x.cheapest(0, 0), 0, 0);
        CHECK.told("the last of the first row", x, x.cheapest(1, 0), 40, 0);
        x = Check.desk("desk size 4 layers 1;class c;place o layer 0;place p layer 0;bound p 0 0 0 4 0 4 4 0 4;"
                + "rate p c 0 5;bound o 1 2 0 3 0 3 1 2 1;bound o 2 0 3 1 3 1 4 0 4");
        CHECK.told("X ahead of the border", x, x.cheapest(1, 0), 2, 0);
        CHECK.told("by Y, then by X", x, x.cheapest(2, 0), 4, 0);
        x = Check.desk("desk size 2 layers 1;class c;place p layer 0;bound p 0 0 0 2 0 2 2 0 2;rate p c 0 2500");
        CHECK.told("the smallest", x, x.cheapest(0, 0), 2, 0);
    }

    // "BASE of one: 0 if FREE, else units times the lesser of price and CAP"
    private static void baseOfAPart() {
        SalePlaces x = Check.desk(ONE + ";rate p c 0 2500;cap p c 500;holiday p c 9 9 price 400");
        int[][] due = {{0, 499, 998}, {0, 500, 1000}, {0, 501, 1000}, {0, 9999, 1000}, {0, 1, 2}, {9, 400, 0},
            {9, 401, 802}, {9, 9999, 1000}};
        for (int l = 0; l < due.length; l++) {
            CHECK.told("a SALE", x, x.sale(due[l][0], 0, 0, 0, 2, due[l][1]), l, 0);
            CHECK.told("BASE by " + due[l][1], x, x.part(l, 0, 4), due[l][2], 0);
        }
        x = Check.desk(ONE + ";rate p c 0 2500");
        x.sale(999, 3, 3, 0, 99, 9999);
        CHECK.told("the most", x, x.part(0, 0, 4), 989901, 0);
        x.sale(0, 0, 0, 0, 1, 1);
        CHECK.told("the least", x, x.part(1, 0, 4), 1, 0);
    }

    // "its TAX: BASE times RATE by 10,000, to the nearest WHOLE, a half upwards."
    private static void taxToTheNearest() {
        SalePlaces x = Check.desk(ONE + ";rate p c 0 1;rate p c 1 2500;rate p c 2 2499;rate p c 3 5;rate p c 4 0");
        int[][] due = {{0, 1, 4999, 0}, {0, 1, 5000, 1}, {0, 1, 5001, 1}, {0, 3, 4999, 1}, {0, 3, 5000, 2},
            {0, 2, 9999, 2}, {1, 1, 1, 0}, {1, 1, 2, 1}, {1, 1, 3, 1}, {1, 1, 5, 1}, {1, 1, 6, 2}, {1, 1, 10, 3},
            {1, 99, 9999, 247475}, {2, 1, 2, 0}, {2, 99, 9999, 247376}, {3, 1, 999, 0}, {3, 1, 1000, 1},
            {4, 99, 9999, 0}};
        for (int[] row : due) {
            String what = row[1] + " by " + row[2] + " on " + row[0];
            CHECK.told(what, x, x.due(row[0], 0, 0, 0, row[1], row[2]), row[3], 0);
        }
    }

    // "DUE: TAXES of all PARTS together."
    private static void dueOfAll() {
        SalePlaces x = Check.desk(FOUR + ";rate p c 0 2500;rate q c 0 2500;rate r c 0 2500;rate s c 0 2500");
        CHECK.told("the most", x, x.due(999, 39, 39, 0, 99, 9999), 4 * 247475, 0);
        CHECK.told("each rounded by itself", x, x.due(0, 0, 0, 0, 1, 2), 4, 0);
        CHECK.told("the least", x, x.due(0, 0, 0, 0, 1, 1), 0, 0);
        CHECK.told("no PARTS", x, x.due(999, 40, 0, 0, 99, 9999), 0, 0);
        CHECK.told("no PARTS at the last row", x, x.due(999, 0, 40, 0, 99, 9999), 0, 0);
    }

    // "DUE of a SALE that isn't booked."
    private static void dueIsNotBooked() {
        SalePlaces x = Check.desk(ONE + ";rate p c 0 1000");
        x.sale(3, 0, 0, 0, 5, 100);
        x.file(3);
        String still = State.of(x);
        CHECK.told("on a DAY that is FILED", x, x.due(3, 0, 0, 0, 5, 100), 50, 0);
        CHECK.told("the best of DAYS that are FILED", x, x.bestDay(0, 3, 0, 0, 0, 5, 100), 0, 0);
        CHECK.text("nothing is booked", State.of(x), still);
        x = Check.desk(ONE + ";rate p c 0 1000");
        for (int l = 0; l < 40; l++) {
            x.sale(3, 0, 0, 0, 1, 10);
        }
        CHECK.told("with THE BOOK full", x, x.due(3, 0, 0, 0, 5, 100), 50, 0);
        CHECK.told("the last LINE is as it was", x, x.line(39, 8), 1, 0);
    }

    // "The DAY, from one to another one no less, on which that is least, the first such."
    private static void bestDay() {
        SalePlaces x = Check.desk(ONE + ";rate p c 0 1000;rate p c 10 500;rate p c 20 500;rate p c 30 2000;"
                + "rate p c 999 100;holiday p c 15 16 price 50");
        int[][] due = {{0, 0, 0}, {0, 9, 0}, {0, 10, 10}, {0, 14, 10}, {0, 15, 15}, {0, 998, 15}, {16, 998, 16},
            {17, 998, 17}, {25, 998, 25}, {30, 998, 30}, {30, 999, 999}, {998, 999, 999}, {999, 999, 999},
            {0, 999, 15}};
        for (int[] row : due) {
            CHECK.told("from " + row[0] + " till " + row[1], x, x.bestDay(row[0], row[1], 0, 0, 0, 1, 50), row[2], 0);
        }
        CHECK.told("till the DAY ahead", x, x.bestDay(10, 9, 0, 0, 0, 1, 50), -1, 2);
        CHECK.told("till -1", x, x.bestDay(0, -1, 0, 0, 0, 1, 50), -1, 2);
        CHECK.told("from 1,000", x, x.bestDay(1000, 1000, 0, 0, 0, 1, 50), -1, 2);
        CHECK.told("where nobody taxes", x, x.bestDay(5, 999, 4, 4, 0, 1, 50), 5, 0);
        CHECK.told("too cheap for a difference", x, x.bestDay(0, 999, 0, 0, 0, 1, 4), 0, 0);
        // A DAY on which more is due may come ahead of the least one.
        x = Check.desk(ONE + ";rate p c 0 1000;rate p c 5 2000;rate p c 6 900;holiday p c 6 6 price 9;bound p 8 none");
        CHECK.told("over a dearer DAY", x, x.bestDay(0, 7, 0, 0, 0, 9, 100), 6, 0);
        CHECK.told("a border gone", x, x.bestDay(0, 999, 0, 0, 0, 9, 100), 8, 0);
    }

    // As many DAYS on which something changes as there may be: each is looked at.
    private static void bestOfManyDays() {
        StringBuilder text = new StringBuilder(ONE);
        for (int k = 0; k < 20; k++) {
            text.append(";rate p c ").append(10 * k).append(' ').append(2500 - k);
        }
        for (int k = 0; k < 15; k++) {
            text.append(";bound p ").append(10 * k + 3).append(" 0 0 4 0 4 4 0 4");
        }
        for (int k = 0; k < 6; k++) {
            text.append(";holiday p c ").append(900 + 2 * k).append(' ').append(900 + 2 * k).append(" price 50");
        }
        SalePlaces x = Check.desk(text.toString());
        CHECK.told("the twentieth rate", x, x.bestDay(0, 899, 0, 0, 0, 99, 9999), 190, 0);
        CHECK.told("the nineteenth", x, x.bestDay(0, 189, 0, 0, 0, 99, 9999), 180, 0);
        CHECK.told("the first holiday", x, x.bestDay(0, 999, 0, 0, 0, 99, 50), 900, 0);
        CHECK.told("the sixth holiday", x, x.bestDay(909, 999, 0, 0, 0, 99, 50), 910, 0);
        CHECK.told("behind all", x, x.bestDay(911, 999, 0, 0, 0, 99, 50), 911, 0);
    }
}
