/** Promises 29 to 39: THE BOOK, THE LEDGER and FILINGS as they are told. */
public final class BookTest {
    private static final Check CHECK = new Check();
    private static final int FAR = Integer.MIN_VALUE;
    private static final int FOOD = 1;
    private static final int WINE = 2;
    private static final int BOOK = 3;

    public static void main(String[] args) {
        line();
        part();
        asBooked();
        entries();
        taxes();
        filings();
        pays();
        pending();
        wrong();
        CHECK.end();
    }

    private static void rows(String what, int[] got, int... due) {
        for (int k = 0; k < due.length; k++) {
            CHECK.same(what + " " + k, got[k], due[k]);
        }
    }

    private static int[] lineOf(SalePlaces x, int l) {
        int[] row = new int[10];
        for (int what = 0; what < 10; what++) {
            row[what] = x.line(l, what);
        }
        return row;
    }

    private static int[] partOf(SalePlaces x, int l, int i) {
        int[] row = new int[6];
        for (int what = 0; what < 6; what++) {
            row[what] = x.part(l, i, what);
        }
        return row;
    }

    private static void line() {
        SalePlaces x = Check.desk(Desks.CITY);
        CHECK.told("no line", x, x.line(0, 0), -1, 1);
        CHECK.told("sale", x, x.sale(3, 5, 6, WINE, 2, 1000), 0, 0);
        rows("a line", lineOf(x, 0), 3, 5, 6, WINE, 2, 1000, 2, 3, 117, 0);
        CHECK.told("what 10", x, x.line(0, 10), -1, 1);
        CHECK.told("what -1", x, x.line(0, -1), -1, 1);
        CHECK.told("line 1", x, x.line(1, 0), -1, 1);
        CHECK.told("line -1", x, x.line(-1, 0), -1, 1);
        CHECK.told("refund", x, x.refund(0, 1), 117 - (50 + 1 + 8), 0);
        rows("refunded", lineOf(x, 0), 3, 5, 6, WINE, 2, 1000, 1, 3, 59, 0);
        CHECK.same("file", x.file(3), 59);
        rows("filed", lineOf(x, 0), 3, 5, 6, WINE, 2, 1000, 1, 3, 59, 1);
        CHECK.told("a line of nobody's", x, x.sale(4, 20, 20, BOOK, 1, 1), 1, 0);
        rows("a line of nobody's", lineOf(x, 1), 4, 20, 20, BOOK, 1, 1, 1, 0, 0, 0);
    }

    private static void part() {
        SalePlaces x = Check.desk(Desks.CITY);
        x.sale(20, 5, 6, WINE, 3, 50);
        rows("a free part", partOf(x, 0, 0), 0, 100, -2, 1, 0, 0);
        rows("a capped part", partOf(x, 0, 1), 1, 200, 40, 0, 120, 2);
        rows("a plain part", partOf(x, 0, 2), 4, 75, -2, 0, 150, 1);
        x.refund(0, 2);
        rows("a free part, refunded", partOf(x, 0, 0), 0, 100, -2, 1, 0, 0);
        rows("a capped part, refunded", partOf(x, 0, 1), 1, 200, 40, 0, 40, 1);
        rows("a plain part, refunded", partOf(x, 0, 2), 4, 75, -2, 0, 50, 0);
        x.refund(0, 1);
        rows("nothing left", partOf(x, 0, 1), 1, 200, 40, 0, 0, 0);
        CHECK.told("part 3", x, x.part(0, 3, 0), -1, 1);
        CHECK.told("part -1", x, x.part(0, -1, 0), -1, 1);
        CHECK.told("what 6", x, x.part(0, 0, 6), -1, 1);
        CHECK.told("what -1", x, x.part(0, 0, -1), -1, 1);
        CHECK.told("line 1", x, x.part(1, 0, 0), -1, 1);
        x.sale(20, 20, 20, WINE, 3, 50);
        CHECK.told("a part of nobody's line", x, x.part(1, 0, 0), -1, 1);
    }

    // Whatever moves later, PARTS and RATES stay, also for what is refunded then.
    private static void asBooked() {
        SalePlaces x = Check.desk(Desks.PLAIN);
        x.sale(5, 1, 1, 0, 10, 100);
        CHECK.same("due", x.line(0, 8), 150);
        x.turn(0, 0, 2, 0);
        x.move(1, 3, 2, 0);
        CHECK.same("due still", x.line(0, 8), 150);
        CHECK.same("parts still", x.line(0, 7), 2);
        CHECK.same("rate still", x.part(0, 0, 1), 1000);
        CHECK.told("refund by the stack of the sale", x, x.refund(0, 4), 60, 0);
        CHECK.same("owed", x.owed(0), -90);
    }

    private static void entries() {
        SalePlaces x = Check.desk(Desks.CITY);
        CHECK.told("none", x, x.entries(), 0, 0);
        CHECK.told("entry of none", x, x.entry(0, 0), -1, 1);
        x.sale(0, 20, 20, 0, 1, 1);
        CHECK.told("of nobody's line", x, x.entries(), 0, 0);
        x.sale(5, 12, 5, WINE, 1, 1000);
        x.sale(0, 5, 5, WINE, 1, 10);
        x.sale(0, 15, 15, FOOD, 1, 1);
        x.sale(0, 15, 15, WINE, 1, 1000);
        CHECK.told("six", x, x.entries(), 6, 0);
        int[][] due = {{0, WINE, 10 + 1 + 50}, {2, WINE, 25}, {4, WINE, 8 + 0 + 8}, {1, WINE, 0}, {0, FOOD, 0},
            {4, FOOD, 0}};
        for (int i = 0; i < 6; i++) {
            for (int what = 0; what < 3; what++) {
                CHECK.told("entry " + i + " " + what, x, x.entry(i, what), due[i][what], 0);
            }
        }
        CHECK.told("entry 6", x, x.entry(6, 0), -1, 1);
        CHECK.told("entry -1", x, x.entry(-1, 0), -1, 1);
        CHECK.told("what 3", x, x.entry(0, 3), -1, 1);
        CHECK.told("what -1", x, x.entry(0, -1), -1, 1);
        x.refund(4, 1);
        CHECK.told("refunded lines keep theirs", x, x.entries(), 6, 0);
        CHECK.same("less", x.entry(0, 2), 11);
        x.undo();
        x.undo();
        x.undo();
        CHECK.told("undone ones are gone", x, x.entries(), 4, 0);
        x = Check.desk(Desks.PLAIN);
        x.sale(0, 1, 1, 0, 1, 1000);
        CHECK.told("of the first line", x, x.entries(), 2, 0);
        CHECK.told("asked again", x, x.entries(), 2, 0);
        CHECK.told("the first entry", x, x.entry(0, 2), 100, 0);
    }

    private static void taxes() {
        SalePlaces x = Check.desk(Desks.PLAIN);
        x.sale(0, 1, 1, 0, 1, 1000);
        x.sale(0, 3, 1, 0, 1, 200);
        x.sale(0, 1, 1, 1, 1, 30);
        CHECK.told("a place and a class", x, x.taxes(0, 0), 120, 0);
        CHECK.told("a place", x, x.taxes(0, -1), 123, 0);
        CHECK.told("a class", x, x.taxes(-1, 0), 170, 0);
        CHECK.told("all", x, x.taxes(-1, -1), 173, 0);
        CHECK.told("an entry of 0", x, x.taxes(1, 1), 0, 0);
        CHECK.told("place 2", x, x.taxes(2, 0), -1, 1);
        CHECK.told("place -2", x, x.taxes(-2, 0), -1, 1);
        CHECK.told("class 2", x, x.taxes(0, 2), -1, 1);
        CHECK.told("class -2", x, x.taxes(0, -2), -1, 1);
    }

    private static void filings() {
        SalePlaces x = Check.desk(Desks.PLAIN);
        CHECK.told("none", x, x.filings(), 0, 0);
        CHECK.told("filing of none", x, x.filing(0, 0), -1, 1);
        x.sale(5, 1, 1, 0, 1, 1000);
        x.sale(6, 1, 1, 0, 1, 1000);
        x.sale(4, 1, 1, 0, 1, 1000);
        CHECK.told("file", x, x.file(5), 300, 0);
        CHECK.told("file nothing", x, x.file(900), 150, 0);
        CHECK.told("file nothing more", x, x.file(901), 0, 0);
        CHECK.told("three", x, x.filings(), 3, 0);
        int[][] due = {{5, 2}, {900, 1}, {901, 0}};
        for (int i = 0; i < 3; i++) {
            CHECK.told("day " + i, x, x.filing(i, 0), due[i][0], 0);
            CHECK.told("lines " + i, x, x.filing(i, 1), due[i][1], 0);
        }
        CHECK.told("filing 3", x, x.filing(3, 0), -1, 1);
        CHECK.told("filing -1", x, x.filing(-1, 0), -1, 1);
        CHECK.told("what 2", x, x.filing(0, 2), -1, 1);
        CHECK.told("what -1", x, x.filing(0, -1), -1, 1);
    }

    private static void pays() {
        SalePlaces x = Check.desk(Desks.PLAIN);
        CHECK.told("none", x, x.pays(0, 0), FAR, 1);
        x.sale(5, 1, 1, 0, 10, 100);
        x.sale(7, 3, 1, 0, 1, 100);
        CHECK.told("file", x, x.file(5), 150, 0);
        CHECK.told("p", x, x.pays(0, 0), 100, 0);
        CHECK.told("q", x, x.pays(0, 1), 50, 0);
        CHECK.told("all", x, x.pays(0, -1), 150, 0);
        CHECK.told("refund", x, x.refund(0, 3), 45, 0);
        CHECK.told("what is paid stays", x, x.pays(0, -1), 150, 0);
        CHECK.told("corrections", x, x.file(7), 10 - 45, 0);
        CHECK.told("p again", x, x.pays(1, 0), 10 - 30, 0);
        CHECK.told("q again", x, x.pays(1, 1), -15, 0);
        CHECK.told("only once", x, x.file(8), 0, 0);
        CHECK.told("p once more", x, x.pays(2, 0), 0, 0);
        CHECK.told("filing 3", x, x.pays(3, 0), FAR, 1);
        CHECK.told("filing -1", x, x.pays(-1, 0), FAR, 1);
        CHECK.told("place 2", x, x.pays(0, 2), FAR, 1);
        CHECK.told("place -2", x, x.pays(0, -2), FAR, 1);
    }

    private static void pending() {
        SalePlaces x = Check.desk(Desks.PLAIN);
        CHECK.told("nothing", x, x.pending(0, -1), 0, 0);
        x.sale(5, 1, 1, 0, 10, 100);
        x.sale(7, 3, 1, 0, 1, 100);
        CHECK.told("ahead", x, x.pending(4, -1), 0, 0);
        CHECK.told("up to 5", x, x.pending(5, -1), 150, 0);
        CHECK.told("of p", x, x.pending(7, 0), 110, 0);
        CHECK.told("of q", x, x.pending(999, 1), 50, 0);
        x.refund(0, 1);
        CHECK.told("of the units left", x, x.pending(5, -1), 135, 0);
        x.file(5);
        CHECK.told("not behind the latest", x, x.pending(5, 0), FAR, 2);
        CHECK.told("filed ones aren't", x, x.pending(6, -1), 0, 0);
        x.refund(0, 9);
        CHECK.told("corrections", x, x.pending(6, -1), -135, 0);
        CHECK.told("corrections of q", x, x.pending(6, 1), -45, 0);
        CHECK.told("all", x, x.pending(999, -1), -125, 0);
        CHECK.told("all filings and pending are the ledger", x, x.taxes(-1, -1), 135 - 125, 0);
        CHECK.told("place 2 ahead of the day", x, x.pending(1000, 2), FAR, 1);
        CHECK.told("place -2", x, x.pending(6, -2), FAR, 1);
        CHECK.told("day 1000", x, x.pending(1000, 0), FAR, 2);
        CHECK.told("day -1", x, x.pending(-1, 0), FAR, 2);
    }

    private static void wrong() {
        SalePlaces x = Check.desk(Desks.PLAIN);
        CHECK.told("none", x, x.wrong(), 0, 0);
        x.sale(5, 1, 1, 0, 10, 100);
        x.sale(1, 1, 1, 0, 10, 100);
        x.sale(5, 1, 1, 1, 10, 100);
        x.sale(5, 3, 1, 0, 1, 4);
        CHECK.told("still none", x, x.wrong(), 0, 0);
        CHECK.told("nothing owed", x, x.owed(0), 0, 0);
        x.turn(0, 0, 4, 1200);
        CHECK.told("of that class and day, and not rounded off", x, x.wrong(), 1, 0);
        CHECK.told("owed more", x, x.owed(0), 20, 0);
        CHECK.told("owed of another day", x, x.owed(1), 0, 0);
        CHECK.told("owed of another class", x, x.owed(2), 0, 0);
        CHECK.told("owed too little for a whole", x, x.owed(3), 0, 0);
        x.refund(0, 5);
        CHECK.told("of the units left", x, x.owed(0), 10, 0);
        x.move(1, 5, 2, 0);
        CHECK.told("a place less, a place more", x, x.wrong(), 1, 0);
        CHECK.told("owed with both", x, x.owed(0), 10 - 25, 0);
        x.refund(0, 5);
        CHECK.told("nothing left, nothing wrong", x, x.wrong(), 0, 0);
        CHECK.told("nothing left, nothing owed", x, x.owed(0), 0, 0);
        CHECK.told("line 4", x, x.owed(4), FAR, 1);
        CHECK.told("line -1", x, x.owed(-1), FAR, 1);
        x.undo();
        x.file(9);
        CHECK.told("filed ones too", x, x.wrong(), 1, 0);
        CHECK.told("owed of filed ones", x, x.owed(0), -15, 0);
    }
}
