import java.util.NoSuchElementException;

/** Promises 40 to 48: acts and what is told. */
public final class ActsTest {
    private static final Check CHECK = new Check();
    private static final int FAR = Integer.MIN_VALUE;

    public static void main(String[] args) {
        file();
        sale();
        refund();
        move();
        turn();
        undo();
        undoEach();
        keptActs();
        idle();
        size();
        trouble();
        CHECK.end();
    }

    private static void file() {
        SalePlaces x = Check.desk(Desks.PLAIN);
        CHECK.told("day -1", x, x.file(-1), FAR, 2);
        CHECK.told("day 1000", x, x.file(1000), FAR, 2);
        CHECK.told("nothing refused is kept", x, x.filings(), 0, 0);
        CHECK.told("day 0", x, x.file(0), 0, 0);
        CHECK.told("the same day", x, x.file(0), FAR, 2);
        for (int day = 1; day < 12; day++) {
            CHECK.told("day " + day, x, x.file(day), 0, 0);
        }
        CHECK.told("a thirteenth, the day first", x, x.file(11), FAR, 2);
        CHECK.told("a thirteenth", x, x.file(12), FAR, 3);
        CHECK.told("twelve", x, x.filings(), 12, 0);
        x.undo();
        CHECK.told("room again", x, x.file(12), 0, 0);
    }

    private static void sale() {
        SalePlaces x = Check.desk(Desks.PLAIN);
        x.file(5);
        CHECK.told("class first", x, x.sale(1000, 0, 0, 2, 0, 0), -1, 1);
        CHECK.told("class -1", x, x.sale(6, 0, 0, -1, 1, 1), -1, 1);
        CHECK.told("day", x, x.sale(1000, 0, 0, 0, 1, 1), -1, 2);
        CHECK.told("day -1", x, x.sale(-1, 0, 0, 0, 1, 1), -1, 2);
        CHECK.told("x", x, x.sale(6, 5, 0, 0, 1, 1), -1, 2);
        CHECK.told("y", x, x.sale(6, 0, -1, 0, 1, 1), -1, 2);
        CHECK.told("units 0", x, x.sale(6, 0, 0, 0, 0, 1), -1, 2);
        CHECK.told("units 100, a number ahead of the filed day", x, x.sale(5, 0, 0, 0, 100, 1), -1, 2);
        CHECK.told("price 0", x, x.sale(6, 0, 0, 0, 1, 0), -1, 2);
        CHECK.told("price 10,000", x, x.sale(6, 0, 0, 0, 1, 10000), -1, 2);
        CHECK.told("a filed day", x, x.sale(5, 0, 0, 0, 1, 1), -1, 5);
        CHECK.told("none is booked", x, x.about(8), 0, 0);
        for (int l = 0; l < 40; l++) {
            CHECK.told("line " + l, x, x.sale(6, 4, 4, 0, 99, 9999), l, 0);
        }
        CHECK.told("a filed day ahead of room", x, x.sale(5, 0, 0, 0, 1, 1), -1, 5);
        CHECK.told("no room", x, x.sale(6, 0, 0, 0, 1, 1), -1, 3);
        x.undo();
        CHECK.told("room again", x, x.sale(6, 0, 0, 1, 1, 30), 39, 0);
        CHECK.told("a row used again", x, x.line(39, 8), 3, 0);
    }

    private static void refund() {
        SalePlaces x = Check.desk(Desks.PLAIN);
        CHECK.told("no line", x, x.refund(0, 1), -1, 1);
        x.sale(0, 3, 0, 0, 9, 5);
        CHECK.told("line first", x, x.refund(1, 0), -1, 1);
        CHECK.told("line -1", x, x.refund(-1, 1), -1, 1);
        CHECK.told("0", x, x.refund(0, 0), -1, 2);
        CHECK.told("-1", x, x.refund(0, -1), -1, 2);
        CHECK.told("10", x, x.refund(0, 10), -1, 2);
        // 45 by a tenth is 5 (4.5), 40 is 4, 35 is 4 (3.5), 5 is 1 (0.5).
        CHECK.told("one", x, x.refund(0, 1), 1, 0);
        CHECK.told("one more", x, x.refund(0, 1), 0, 0);
        CHECK.told("eight", x, x.refund(0, 8), -1, 2);
        CHECK.told("six", x, x.refund(0, 6), 3, 0);
        CHECK.told("the last", x, x.refund(0, 1), 1, 0);
        CHECK.told("nothing left", x, x.refund(0, 1), -1, 2);
        CHECK.same("the ledger", x.taxes(-1, -1), 0);
    }

    private static void move() {
        SalePlaces x = Check.desk(Desks.CITY);
        CHECK.told("place first", x, x.move(6, 1000, 99, 0), -1, 1);
        CHECK.told("place -1", x, x.move(-1, 5, 0, 0), -1, 1);
        CHECK.told("day 1000", x, x.move(1, 1000, 0, 0), -1, 2);
        CHECK.told("its day", x, x.move(1, 0, 0, 0), -1, 2);
        CHECK.told("a day ahead of it", x, x.move(2, 4, 0, 0), -1, 2);
        CHECK.told("dx 41", x, x.move(1, 1, 41, 0), -1, 2);
        CHECK.told("dx far", x, x.move(1, 1, Integer.MAX_VALUE, 0), -1, 2);
        CHECK.told("dy -41", x, x.move(1, 1, 0, -41), -1, 2);
        CHECK.told("out at the east", x, x.move(1, 1, 11, 0), -1, 2);
        CHECK.told("out at the west", x, x.move(1, 1, -1, 0), -1, 2);
        CHECK.told("out at the south", x, x.move(1, 1, 0, 11), -1, 2);
        CHECK.told("out at the north", x, x.move(1, 1, 0, -1), -1, 2);
        CHECK.told("the first bound, out", x, x.move(0, 1, 1, 0), -1, 2);
        CHECK.told("no bound", x, x.move(5, 1, 0, 0), -1, 5);
        CHECK.told("no bound, a number first", x, x.move(5, 1, 41, 0), -1, 2);
        CHECK.told("no bound, day -1", x, x.move(5, -1, 0, 0), -1, 2);
        CHECK.told("none of area", x, x.move(4, 31, 40, -40), -1, 5);
        CHECK.told("none of area, the day first", x, x.move(4, 30, 0, 0), -1, 2);
        CHECK.told("moved", x, x.move(1, 7, 10, 10), 2, 0);
        CHECK.told("the first bound still", x, x.corner(1, 6, 2, 0), 10, 0);
        CHECK.told("east", x, x.corner(1, 7, 0, 0), 10, 0);
        CHECK.told("south", x, x.corner(1, 7, 2, 1), 20, 0);
        CHECK.told("as many corners", x, x.corners(1, 999), 4, 0);
        CHECK.told("settled ahead", x, x.settled(1, 6, 5, 5), 1, 0);
        CHECK.told("settled then", x, x.settled(1, 7, 5, 5), 2, 0);
        CHECK.told("settled there", x, x.settled(1, 7, 10, 10), 1, 0);
        CHECK.told("of the latest", x, x.move(1, 8, -10, 0), 3, 0);
        CHECK.told("west again", x, x.corner(1, 8, 0, 0), 0, 0);
        CHECK.told("but south", x, x.corner(1, 8, 0, 1), 10, 0);
        for (int day = 9; day < 17; day++) {
            CHECK.told("day " + day, x, x.move(1, day, 0, 0), day - 5, 0);
        }
        CHECK.told("16 of all", x, x.about(4), 16, 0);
        CHECK.told("no room", x, x.move(0, 5, 0, 0), -1, 3);
        CHECK.told("5 ahead of no room", x, x.move(5, 5, 0, 0), -1, 5);
        CHECK.told("2 ahead of no room", x, x.move(0, 0, 0, 0), -1, 2);
        x = Check.desk("desk size 5 layers 1;class c;place p layer 0;bound p 0 1 1 2 2 3 3");
        CHECK.told("corners in a row", x, x.move(0, 1, 2, -1), 2, 0);
        CHECK.told("moved south by less than 0", x, x.corner(0, 1, 0, 1), 0, 0);
    }

    private static void turn() {
        SalePlaces x = Check.desk(Desks.CITY);
        CHECK.told("place first", x, x.turn(6, 0, 1000, 0), -1, 1);
        CHECK.told("class first", x, x.turn(0, 4, 1000, 0), -1, 1);
        CHECK.told("class -1", x, x.turn(0, -1, 5, 0), -1, 1);
        CHECK.told("day 1000", x, x.turn(0, 0, 1000, 0), -1, 2);
        CHECK.told("day -1 of a new two", x, x.turn(0, 2, -1, 0), -1, 2);
        CHECK.told("its day", x, x.turn(0, 1, 5, 0), -1, 2);
        CHECK.told("a rate below 0", x, x.turn(0, 1, 6, -1), -1, 2);
        CHECK.told("a rate of 2,501", x, x.turn(0, 1, 6, 2501), -1, 2);
        CHECK.told("turned", x, x.turn(0, 1, 6, 2500), 7, 0);
        CHECK.told("ahead", x, x.rate(0, 1, 5), 100, 0);
        CHECK.told("then", x, x.rate(0, 1, 6), 2500, 0);
        CHECK.told("those below", x, x.rate(0, 2, 6), 2500, 0);
        CHECK.told("of another class, ahead of that day", x, x.turn(0, 0, 2, 0), 8, 0);
        CHECK.told("of a new two", x, x.turn(5, 3, 0, 1), 9, 0);
        for (int day = 7; day < 18; day++) {
            CHECK.told("day " + day, x, x.turn(0, 1, day, 0), day + 3, 0);
        }
        CHECK.told("no room", x, x.turn(0, 1, 18, 0), -1, 3);
        CHECK.told("2 ahead of no room", x, x.turn(0, 1, 17, 0), -1, 2);
        CHECK.told("twenty", x, x.about(5), 20, 0);
    }

    private static void undo() {
        SalePlaces x = Check.desk(Desks.PLAIN);
        CHECK.told("nothing", x, x.undo() ? 1 : 0, 0, 1);
        x.sale(5, 1, 1, 0, 10, 100);
        x.sale(1000, 1, 1, 0, 10, 100);
        x.refund(0, 11);
        CHECK.same("refused ones aren't kept", x.size(1), 1);
        CHECK.told("a sale", x, x.undo() ? 1 : 0, 1, 0);
        CHECK.same("no line", x.about(8), 0);
        CHECK.told("nothing more", x, x.undo() ? 1 : 0, 0, 1);
    }

    private static void undoEach() {
        SalePlaces x = Check.desk(Desks.PLAIN);
        x.sale(5, 1, 1, 0, 10, 100);
        x.refund(0, 2);
        x.file(6);
        x.refund(0, 3);
        x.file(7);
        x.move(1, 8, 1, 0);
        x.turn(0, 0, 8, 7);
        CHECK.same("seven", x.size(1), 7);
        CHECK.same("a rate", x.rate(0, 0, 8), 7);
        CHECK.told("undo turn", x, x.undo() ? 1 : 0, 1, 0);
        CHECK.same("the rate ahead", x.rate(0, 0, 8), 1000);
        CHECK.same("rates", x.about(5), 3);
        CHECK.told("undo move", x, x.undo() ? 1 : 0, 1, 0);
        CHECK.same("the bound ahead", x.corner(1, 8, 0, 0), 0);
        CHECK.same("bounds", x.place(1, 2), 1);
        CHECK.same("pays", x.pays(1, -1), -45);
        CHECK.told("undo the second filing", x, x.undo() ? 1 : 0, 1, 0);
        CHECK.same("filings", x.filings(), 1);
        CHECK.same("filed by the first one", x.line(0, 9), 1);
        CHECK.same("pending again", x.pending(7, -1), -45);
        CHECK.told("undo the second refund", x, x.undo() ? 1 : 0, 1, 0);
        CHECK.same("units left", x.line(0, 6), 8);
        CHECK.same("nothing pending", x.pending(7, -1), 0);
        CHECK.told("undo the first filing", x, x.undo() ? 1 : 0, 1, 0);
        CHECK.same("not filed", x.line(0, 9), 0);
        CHECK.same("pending then", x.pending(6, -1), 120);
        CHECK.told("a sale on that day again", x, x.sale(6, 1, 1, 0, 1, 1), 1, 0);
        CHECK.told("undo that", x, x.undo() ? 1 : 0, 1, 0);
        CHECK.told("undo the first refund", x, x.undo() ? 1 : 0, 1, 0);
        CHECK.same("all units", x.line(0, 6), 10);
        CHECK.same("all taxes", x.taxes(-1, -1), 150);
        CHECK.told("undo the sale", x, x.undo() ? 1 : 0, 1, 0);
        CHECK.same("no entries", x.entries(), 0);
        CHECK.told("nothing more", x, x.undo() ? 1 : 0, 0, 1);
    }

    private static void keptActs() {
        SalePlaces x = Check.desk(Desks.PLAIN);
        x.sale(5, 1, 1, 0, 99, 100);
        for (int k = 1; k <= 9; k++) {
            x.refund(0, k);
            CHECK.same("kept", x.size(1), Math.min(8, k + 1));
        }
        int left = 99 - 45;
        for (int k = 9; k >= 2; k--) {
            left += k;
            CHECK.told("undo " + k, x, x.undo() ? 1 : 0, 1, 0);
            CHECK.same("left", x.line(0, 6), left);
        }
        CHECK.told("the first ones aren't kept", x, x.undo() ? 1 : 0, 0, 1);
        CHECK.same("nothing can be undone", x.size(1), 0);
        CHECK.same("they stand", x.line(0, 6), 98);
        for (int k = 0; k < 12; k++) {
            x.sale(5, 1, 1, 0, 50, 100);
        }
        for (int k = 0; k < 12; k++) {
            x.refund(12 - k, k + 1);
        }
        for (int k = 0; k < 8; k++) {
            x.undo();
        }
        for (int l = 1; l <= 12; l++) {
            CHECK.same("left of line " + l, x.line(l, 6), l < 9 ? 50 : 50 - (13 - l));
        }
    }

    private static String idle(SalePlaces x, int i) {
        try {
            return String.valueOf(x.idle(i));
        } catch (NoSuchElementException e) {
            return "none";
        }
    }

    private static void idles(String what, SalePlaces x, String due) {
        StringBuilder got = new StringBuilder();
        for (int i = -1; i < 7; i++) {
            got.append(idle(x, i)).append(' ');
        }
        CHECK.same(what + ", " + got, got.toString().trim().equals(due) ? 1 : 0, 1);
    }

    private static void idle() {
        SalePlaces x = new SalePlaces();
        idles("no desk", x, "none none none none none none none none");
        x = Check.desk(Desks.CITY);
        idles("all", x, "none 0 1 2 3 4 5 none");
        x.sale(0, 20, 20, 0, 1, 1);
        idles("nobody's line", x, "none 0 1 2 3 4 5 none");
        x.sale(0, 5, 5, 3, 1, 1);
        idles("a line of 0, too", x, "none 2 3 5 none none none none");
        x.refund(1, 1);
        idles("refunded", x, "none 2 3 5 none none none none");
        CHECK.told("desk(-1)", x, x.desk(-1), -1, 2);
        idle(x, 0);
        idle(x, 9);
        CHECK.same("trouble stays", x.trouble(), 2);
        x.undo();
        x.undo();
        idles("undone", x, "none 0 1 2 3 4 5 none");
        x.undo();
        x.sale(0, 5, 15, 0, 1, 1);
        idles("the first line", x, "none 1 2 3 5 none none none");
    }

    private static void size() {
        SalePlaces x = Check.desk(Desks.PLAIN);
        CHECK.same("units of none", x.size(2), 0);
        x.sale(5, 1, 1, 0, 10, 100);
        x.sale(5, 1, 1, 0, 99, 100);
        x.refund(1, 3);
        x.feed(0, 0, 0, 0, 0);
        x.desk(-1);
        CHECK.same("bytes", x.size(0), 20);
        CHECK.same("acts", x.size(1), 3);
        CHECK.same("units", x.size(2), 106);
        CHECK.same("size(3)", x.size(3), -1);
        CHECK.same("size(-1)", x.size(-1), -1);
        CHECK.same("trouble stays", x.trouble(), 2);
        x.file(9);
        CHECK.same("filed ones too", x.size(2), 106);
    }

    // Only calls of which a number is told change it.
    private static void trouble() {
        SalePlaces x = Check.desk(Desks.PLAIN);
        CHECK.same("of a desk", x.trouble(), 0);
        x.about(9);
        x.feed(0, 0, 0, 0, 0);
        x.fault();
        x.where();
        x.size(0);
        x.size(9);
        idle(x, 0);
        CHECK.same("1 stays", x.trouble(), 1);
        x.wrong();
        CHECK.same("0 of a call that is answered", x.trouble(), 0);
        x.overlap(0, 1, 0);
        CHECK.same("5", x.trouble(), 5);
        x.undo();
        CHECK.same("1 of undo", x.trouble(), 1);
        x.desk(20);
        CHECK.same("4", x.trouble(), 4);
        CHECK.same("where", x.where(), 0);
        x.fault();
        x.size(1);
        CHECK.same("4 still", x.trouble(), 4);
        CHECK.same("where still", x.where(), 0);
        x.entries();
        CHECK.same("where behind it", x.where(), -1);
        CHECK.same("the fault still", x.fault(), 1);
    }
}
