/** Promises 22 to 28: rates. */
public final class RatesTest {
    private static final Check CHECK = new Check();
    private static final int ALL = 0;
    private static final int FOOD = 1;
    private static final int WINE = 2;
    private static final int BOOK = 3;

    public static void main(String[] args) {
        rate();
        free();
        cap();
        stackRate();
        cheapest();
        due();
        halves();
        bestDay();
        CHECK.end();
    }

    private static void rate() {
        SalePlaces x = Check.desk(Desks.CITY);
        CHECK.told("its own", x, x.rate(0, ALL, 0), 500, 0);
        CHECK.told("of the one above, ahead of its own", x, x.rate(0, FOOD, 4), 500, 0);
        CHECK.told("its own from its day on", x, x.rate(0, FOOD, 5), 100, 0);
        CHECK.told("of the next above", x, x.rate(0, WINE, 999), 100, 0);
        CHECK.told("of the one two above", x, x.rate(0, WINE, 4), 500, 0);
        CHECK.told("of none", x, x.rate(0, BOOK, 5), 0, 0);
        CHECK.told("not of those below", x, x.rate(4, FOOD, 5), 0, 0);
        CHECK.told("place", x, x.rate(6, ALL, 1000), -1, 1);
        CHECK.told("class", x, x.rate(0, 4, 1000), -1, 1);
        CHECK.told("class -1", x, x.rate(0, -1, 0), -1, 1);
        CHECK.told("day", x, x.rate(0, ALL, 1000), -1, 2);
        x = Check.desk("desk size 2 layers 1;class c;class d of c;place p layer 0;rate p c 3 7;rate p d 5 0;"
                + "rate p c 6 9;rate p d 8 4");
        int[] ofC = {0, 0, 0, 7, 7, 7, 9, 9, 9};
        int[] ofD = {0, 0, 0, 7, 7, 0, 0, 0, 4};
        for (int day = 0; day < 9; day++) {
            CHECK.told("c on " + day, x, x.rate(0, 0, day), ofC[day], 0);
            CHECK.told("d on " + day, x, x.rate(0, 1, day), ofD[day], 0);
        }
    }

    private static void free() {
        SalePlaces x = Check.desk(Desks.CITY);
        CHECK.told("the first day", x, x.free(0, FOOD, 20, 50), 1, 0);
        CHECK.told("the last day, one of it", x, x.free(0, WINE, 25, 1), 1, 0);
        CHECK.told("the day ahead", x, x.free(0, FOOD, 19, 50), 0, 0);
        CHECK.told("the day behind", x, x.free(0, FOOD, 26, 50), 0, 0);
        CHECK.told("dearer", x, x.free(0, FOOD, 20, 51), 0, 0);
        CHECK.told("the one above", x, x.free(0, ALL, 20, 50), 0, 0);
        CHECK.told("another place", x, x.free(1, FOOD, 20, 50), 0, 0);
        CHECK.told("price 0", x, x.free(0, FOOD, 20, 0), -1, 2);
        CHECK.told("price 10,000", x, x.free(0, FOOD, 20, 10000), -1, 2);
        CHECK.told("price 9,999", x, x.free(0, FOOD, 20, 9999), 0, 0);
        CHECK.told("day", x, x.free(0, FOOD, 1000, 50), -1, 2);
        CHECK.told("place first", x, x.free(6, FOOD, 1000, 0), -1, 1);
        CHECK.told("class first", x, x.free(0, 4, 1000, 0), -1, 1);
        x = Check.desk("desk size 2 layers 1;class c;place p layer 0;holiday p c 1 9 price 5;holiday p c 3 4 price 8");
        CHECK.told("the dearer of two", x, x.free(0, 0, 3, 8), 1, 0);
        CHECK.told("the longer of two", x, x.free(0, 0, 5, 8), 0, 0);
        x = Check.desk("desk size 2 layers 1;class c;place p layer 0;place q layer 0;holiday q c 1 9 price 5");
        CHECK.told("of the second place", x, x.free(1, 0, 1, 5), 1, 0);
        CHECK.told("not of the first place", x, x.free(0, 0, 1, 5), 0, 0);
    }

    private static void cap() {
        SalePlaces x = Check.desk(Desks.CITY);
        CHECK.told("its own", x, x.cap(1, ALL), 300, 0);
        CHECK.told("of the one above", x, x.cap(1, FOOD), 300, 0);
        CHECK.told("its own ahead of it", x, x.cap(1, WINE), 40, 0);
        CHECK.told("none", x, x.cap(1, BOOK), -2, 0);
        CHECK.told("none of another place", x, x.cap(0, ALL), -2, 0);
        CHECK.told("place", x, x.cap(6, ALL), -1, 1);
        CHECK.told("class", x, x.cap(0, 4), -1, 1);
        CHECK.told("class -1", x, x.cap(0, -1), -1, 1);
    }

    private static void stackRate() {
        SalePlaces x = Check.desk(Desks.CITY);
        CHECK.told("three together", x, x.stackRate(0, 5, 5, WINE), 775, 0);
        CHECK.told("later", x, x.stackRate(5, 5, 5, WINE), 375, 0);
        CHECK.told("up to the only one", x, x.stackRate(10, 5, 15, WINE), 1100, 0);
        CHECK.told("of none", x, x.stackRate(0, 5, 5, BOOK), 0, 0);
        CHECK.told("nobody", x, x.stackRate(0, 20, 5, ALL), 0, 0);
        CHECK.told("class first", x, x.stackRate(1000, 5, 5, 4), -1, 1);
        CHECK.told("day", x, x.stackRate(1000, 5, 5, ALL), -1, 2);
        CHECK.told("x", x, x.stackRate(0, 21, 5, ALL), -1, 2);
        CHECK.told("y", x, x.stackRate(0, 0, -1, ALL), -1, 2);
    }

    private static void cheapest() {
        SalePlaces x = Check.desk(Desks.CITY);
        CHECK.told("the east border", x, x.cheapest(0, ALL), 20, 0);
        CHECK.told("everywhere alike", x, x.cheapest(0, BOOK), 0, 0);
        CHECK.told("class first", x, x.cheapest(1000, 4), -1, 1);
        CHECK.told("day", x, x.cheapest(1000, ALL), -1, 2);
        x = Check.desk("desk size 9 layers 1;class c;place q layer 0;place p layer 0;rate p c 0 5;rate q c 3 0;"
                + "bound q 0 3 0 4 0 4 1 3 1;bound q 7 none;bound p 0 0 0 6 0 6 9 0 9");
        CHECK.told("behind it", x, x.cheapest(7, 0), 6, 0);
        CHECK.told("within it, where another is settled", x, x.cheapest(0, 0), 3, 0);
    }

    private static void due() {
        SalePlaces x = Check.desk(Desks.CITY);
        CHECK.told("three parts, one capped", x, x.due(0, 5, 5, WINE, 2, 1000), 100 + 2 + 15, 0);
        CHECK.told("a price below the cap", x, x.due(0, 5, 5, ALL, 4, 250), 50 + 20, 0);
        CHECK.told("a free part", x, x.due(20, 5, 5, FOOD, 3, 50), 3, 0);
        CHECK.told("dear goods", x, x.due(20, 5, 5, FOOD, 3, 51), 2 + 3, 0);
        CHECK.told("nobody", x, x.due(0, 20, 5, ALL, 99, 9999), 0, 0);
        CHECK.told("isn't booked", x, x.about(8), 0, 0);
        CHECK.told("class first", x, x.due(1000, 0, 0, 4, 0, 0), -1, 1);
        CHECK.told("class -1", x, x.due(0, 0, 0, -1, 1, 1), -1, 1);
        CHECK.told("day", x, x.due(1000, 0, 0, ALL, 1, 1), -1, 2);
        CHECK.told("x", x, x.due(0, 21, 0, ALL, 1, 1), -1, 2);
        CHECK.told("y", x, x.due(0, 0, -1, ALL, 1, 1), -1, 2);
        CHECK.told("units 0", x, x.due(0, 0, 0, ALL, 0, 1), -1, 2);
        CHECK.told("units 100", x, x.due(0, 0, 0, ALL, 100, 1), -1, 2);
        CHECK.told("price 0", x, x.due(0, 0, 0, ALL, 1, 0), -1, 2);
        CHECK.told("price 10,000", x, x.due(0, 0, 0, ALL, 1, 10000), -1, 2);
    }

    private static void halves() {
        SalePlaces x = Check.desk("desk size 2 layers 2;class c;place p layer 0;place q layer 1;"
                + "bound p 0 0 0 2 0 2 2 0 2;bound q 5 0 0 2 0 2 2 0 2;rate p c 0 500;rate q c 0 500;"
                + "rate p c 9 2500;rate q c 9 2500");
        CHECK.told("below a half", x, x.due(0, 0, 0, 0, 1, 9), 0, 0);
        CHECK.told("a half upwards", x, x.due(0, 0, 0, 0, 1, 10), 1, 0);
        CHECK.told("each part by itself", x, x.due(5, 0, 0, 0, 1, 10), 2, 0);
        CHECK.told("units ahead of rounding", x, x.due(0, 0, 0, 0, 3, 10), 2, 0);
        CHECK.told("the most", x, x.due(9, 0, 0, 0, 99, 9999), 2 * 247475, 0);
        x.turn(0, 0, 10, 1);
        x.turn(1, 0, 10, 0);
        CHECK.told("just below a half", x, x.due(10, 0, 0, 0, 1, 4999), 0, 0);
        CHECK.told("just a half", x, x.due(10, 0, 0, 0, 1, 5000), 1, 0);
    }

    private static void bestDay() {
        SalePlaces x = Check.desk(Desks.CITY);
        CHECK.told("a holiday", x, x.bestDay(0, 30, 5, 5, FOOD, 3, 50), 20, 0);
        CHECK.told("its last day", x, x.bestDay(25, 30, 5, 5, FOOD, 3, 50), 25, 0);
        CHECK.told("ahead of it", x, x.bestDay(0, 19, 5, 5, FOOD, 3, 50), 5, 0);
        CHECK.told("within it", x, x.bestDay(22, 30, 5, 5, FOOD, 3, 50), 22, 0);
        CHECK.told("behind it", x, x.bestDay(26, 999, 5, 5, FOOD, 3, 50), 26, 0);
        CHECK.told("too dear for it", x, x.bestDay(0, 999, 5, 5, FOOD, 3, 51), 5, 0);
        CHECK.told("one day", x, x.bestDay(7, 7, 5, 5, FOOD, 3, 50), 7, 0);
        CHECK.told("a border that goes", x, x.bestDay(5, 999, 12, 15, WINE, 1, 1000), 30, 0);
        CHECK.told("the day ahead of that", x, x.bestDay(5, 29, 12, 15, WINE, 1, 1000), 5, 0);
        CHECK.told("a border that comes", x, x.bestDay(0, 999, 5, 15, ALL, 1, 1000), 0, 0);
        CHECK.told("class first", x, x.bestDay(9, 8, 0, 0, 4, 1, 1), -1, 1);
        CHECK.told("till below from", x, x.bestDay(9, 8, 0, 0, ALL, 1, 1), -1, 2);
        CHECK.told("till 1000", x, x.bestDay(9, 1000, 0, 0, ALL, 1, 1), -1, 2);
        CHECK.told("from -1", x, x.bestDay(-1, 8, 0, 0, ALL, 1, 1), -1, 2);
        CHECK.told("x", x, x.bestDay(0, 8, 21, 0, ALL, 1, 1), -1, 2);
        CHECK.told("y", x, x.bestDay(0, 8, 0, -1, ALL, 1, 1), -1, 2);
        CHECK.told("units", x, x.bestDay(0, 8, 0, 0, ALL, 0, 1), -1, 2);
        CHECK.told("price", x, x.bestDay(0, 8, 0, 0, ALL, 1, 10000), -1, 2);
        // The day behind a holiday on which only a free part with a lower sum was: the first least one.
        x = Check.desk("desk size 2 layers 1;class c;place p layer 0;bound p 0 0 0 2 0 2 2 0 2;rate p c 0 100;"
                + "rate p c 4 50;rate p c 6 50;rate p c 8 10;rate p c 9 10;rate p c 999 0");
        CHECK.told("the first of alike ones", x, x.bestDay(0, 998, 0, 0, 0, 10, 100), 8, 0);
        CHECK.told("up to the last day", x, x.bestDay(0, 999, 0, 0, 0, 10, 100), 999, 0);
        CHECK.told("between", x, x.bestDay(1, 7, 0, 0, 0, 10, 100), 4, 0);
        x = Check.desk("desk size 2 layers 1;class c;class d of c;place p layer 0;bound p 0 0 0 2 0 2 2 0 2;"
                + "rate p d 3 5;rate p c 0 100");
        CHECK.told("the first rate told", x, x.bestDay(0, 9, 0, 0, 1, 10, 100), 3, 0);
        x.turn(0, 1, 7, 0);
        CHECK.told("a turned one", x, x.bestDay(0, 9, 0, 0, 1, 10, 100), 7, 0);
    }
}
