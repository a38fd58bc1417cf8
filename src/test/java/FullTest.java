/**
 * Rows that are full, all at once: the last of each is told and used like the first, and nothing of what stood in
 * a row before is told when it is used again.
 */
public final class FullTest {
    private static final Check CHECK = new Check();
    private static final int LOW = Integer.MIN_VALUE;
    private static final String SIX = " 0 0 40 0 40 40 20 40 20 39 0 39";

    public static void main(String[] args) {
        sixteenOfSixCorners();
        movedUpToSixteen();
        tenPlacesSixClasses();
        allRowsAtOnce();
        rowsUsedAgain();
        textsReadAgain();
        CHECK.end();
    }

    /** Ten PLACES, k .. t, in the LAYERS 0 to 3 in turn. */
    private static StringBuilder tenPlaces() {
        StringBuilder text = new StringBuilder("desk size 40 layers 4;class a;class b;class c;class d;class e;class f");
        for (int p = 0; p < 10; p++) {
            text.append(";place ").append((char) ('k' + p)).append(" layer ").append(p % 4);
        }
        return text;
    }

    private static void sixteenOfSixCorners() {
        StringBuilder text = tenPlaces();
        for (int b = 0; b < 16; b++) {
            text.append(";bound ").append((char) ('k' + b % 10)).append(' ').append(b).append(SIX);
        }
        SalePlaces x = Check.desk(text.toString());
        int[] xs = {0, 40, 40, 20, 20, 0};
        int[] ys = {0, 0, 40, 40, 39, 39};
        for (int b = 0; b < 16; b++) {
            int p = b % 10;
            CHECK.told("corners of " + b, x, x.corners(p, b), 6, 0);
            CHECK.told("twice the area of " + b, x, x.area(p, b), 2 * (39 * 40 + 20), 0);
            CHECK.told("the last CORNER's X of " + b, x, x.corner(p, b, 5, 0), xs[5], 0);
            CHECK.told("the last CORNER's Y of " + b, x, x.corner(p, b, 5, 1), ys[5], 0);
            CHECK.told("on the last EDGE of " + b, x, x.onEdge(p, b, 0, 20), 1, 0);
            CHECK.told("IN " + b, x, x.inside(p, b, 20, 39), 1, 0);
            CHECK.told("not IN " + b, x, x.inside(p, b, 19, 39), 0, 0);
        }
        for (int i = 0; i < 6; i++) {
            CHECK.told("X " + i + " of the last", x, x.corner(5, 15, i, 0), xs[i], 0);
            CHECK.told("Y " + i + " of the last", x, x.corner(5, 15, i, 1), ys[i], 0);
        }
        CHECK.told("sixteen", x, x.about(4), 16, 0);
        CHECK.told("points of the first", x, x.points(0, 999), 39 * 40 + 20, 0);
        CHECK.told("points of the tenth", x, x.points(9, 9), 0, 0);
        CHECK.told("both", x, x.overlap(1, 9, 9), 39 * 40 + 20, 0);
        CHECK.told("four in a STACK", x, x.stacked(4, 3), 39 * 40 + 20, 0);
        CHECK.told("a bound more", x, x.move(5, 999, 0, 0), -1, 3);
    }

    private static void movedUpToSixteen() {
        SalePlaces x = Check.desk("desk size 40 layers 1;class c;place p layer 0;bound p 0 0 0 5 0 5 5 4 5 2 3 0 5");
        for (int day = 1; day < 16; day++) {
            CHECK.told("on " + day, x, x.move(0, day, 1, 2), day + 1, 0);
        }
        for (int day = 0; day < 16; day++) {
            CHECK.told("CORNERS on " + day, x, x.corners(0, day), 6, 0);
            CHECK.told("the last X on " + day, x, x.corner(0, day, 5, 0), day, 0);
            CHECK.told("the last Y on " + day, x, x.corner(0, day, 5, 1), 5 + 2 * day, 0);
            CHECK.told("as large on " + day, x, x.area(0, day), x.area(0, 0), 0);
            CHECK.told("the first POINT on " + day, x, x.inside(0, day, day, 2 * day), 1, 0);
        }
        CHECK.told("one more", x, x.move(0, 16, 0, 0), -1, 3);
        CHECK.told("the last is as it was", x, x.corner(0, 16, 5, 0), 15, 0);
    }

    private static void tenPlacesSixClasses() {
        StringBuilder text = tenPlaces();
        for (int p = 0; p < 10; p++) {
            text.append(";bound ").append((char) ('k' + p)).append(" 0 ").append(p).append(" 0 40 0 40 40 ").append(p)
                    .append(" 40;rate ").append((char) ('k' + p)).append(" f 0 ").append(p + 1);
        }
        for (int p = 4; p < 10; p++) {
            text.append(";cap ").append((char) ('k' + p)).append(" f 7");
        }
        SalePlaces x = Check.desk(text.toString());
        for (int p = 0; p < 10; p++) {
            CHECK.told("rate of " + p, x, x.rate(p, 5, 999), p + 1, 0);
            CHECK.told("cap of " + p, x, x.cap(p, 5), p < 4 ? -2 : 7, 0);
            CHECK.told("free " + p, x, x.free(p, 5, 0, 1), 0, 0);
        }
        CHECK.told("one", x, x.stackRate(0, 0, 0, 5), 1, 0);
        CHECK.told("four", x, x.stackRate(0, 39, 0, 5), 1 + 2 + 3 + 4, 0);
        CHECK.told("of another CLASS", x, x.stackRate(0, 39, 0, 4), 0, 0);
        CHECK.told("cheapest", x, x.cheapest(0, 5), 40, 0);
        CHECK.told("cheapest for another CLASS", x, x.cheapest(0, 0), 0, 0);
        CHECK.told("the tenth PLACE turned", x, x.turn(9, 5, 999, 2500), 11, 0);
        CHECK.told("the tenth PLACE moved", x, x.move(9, 999, -9, 0), 2, 0);
        CHECK.told("due", x, x.due(999, 39, 39, 5, 99, 9999), 99 + 198 + 297 + 396, 0);
        CHECK.told("an eleventh PLACE", x, x.rate(10, 5, 0), -1, 1);
        CHECK.told("a seventh CLASS", x, x.rate(9, 6, 0), -1, 1);
    }

    // 16 bounds, 20 rates, 40 LINES of four PARTS, 12 FILINGS; eight ACTS can be undone.
    private static SalePlaces full() {
        SalePlaces x = Check.desk("desk size 40 layers 4;class c;place k layer 0;place l layer 1;place m layer 2;"
                + "place n layer 3;bound k 0" + SIX + ";bound l 0" + SIX + ";bound m 0" + SIX + ";bound n 0" + SIX
                + ";rate k c 0 2500;rate l c 0 2500;rate m c 0 2500;rate n c 0 2500");
        for (int k = 0; k < 12; k++) {
            x.move(k % 4, 900 + k, 0, 0);
        }
        for (int k = 0; k < 16; k++) {
            x.turn(k % 4, 0, 900 + k, 2500);
        }
        for (int l = 0; l < 40; l++) {
            x.sale(l, 39, 38, 0, 99, 9999);
        }
        for (int k = 0; k < 12; k++) {
            x.file(3 * k + 4);
        }
        return x;
    }

    private static void allRowsAtOnce() {
        SalePlaces x = full();
        int[] due = {40, 4, 1, 4, 16, 20, 0, 0, 40};
        for (int what = 0; what < due.length; what++) {
            CHECK.told("about(" + what + ")", x, x.about(what), due[what], 0);
        }
        CHECK.told("filings", x, x.filings(), 12, 0);
        for (int i = 0; i < 12; i++) {
            CHECK.told("LINES of " + i, x, x.filing(i, 1), i == 0 ? 5 : 3, 0);
            CHECK.told("paid by " + i, x, x.pays(i, -1), (i == 0 ? 5 : 3) * 989900, 0);
            CHECK.told("paid by " + i + " to the last", x, x.pays(i, 3), (i == 0 ? 5 : 3) * 247475, 0);
        }
        for (int i = 0; i < 4; i++) {
            CHECK.told("the last LINE's PART " + i, x, x.part(39, i, 5), 247475, 0);
            CHECK.told("TAXES of " + i, x, x.taxes(i, 0), 40 * 247475, 0);
        }
        CHECK.told("pending", x, x.pending(999, -1), 2 * 989900, 0);
        CHECK.told("pending to the last", x, x.pending(38, 3), 247475, 0);
        CHECK.told("wrong", x, x.wrong(), 0, 0);
        CHECK.told("owed of the last", x, x.owed(39), 0, 0);
        CHECK.same("units", x.size(2), 40 * 99);
        x = full();
        CHECK.told("a LINE more", x, x.sale(999, 0, 0, 0, 1, 1), -1, 3);
        CHECK.told("a FILING more", x, x.file(999), LOW, 3);
        CHECK.told("a bound more", x, x.move(0, 999, 0, 0), -1, 3);
        CHECK.told("a RATE more", x, x.turn(0, 0, 999, 0), -1, 3);
        CHECK.text("nothing has changed", State.of(x), State.of(full()));
    }

    // What was undone leaves nothing behind in the rows that are written next.
    private static void rowsUsedAgain() {
        SalePlaces x = Check.desk("desk size 40 layers 2;class c;place p layer 0;place q layer 1;bound p 0" + SIX
                + ";bound q 0 0 0 9 0 9 9;rate p c 0 2500;rate q c 0 100");
        x.move(0, 5, 0, 0);
        x.undo();
        CHECK.told("three CORNERS where six were", x, x.move(1, 5, 30, 31), 2, 0);
        CHECK.told("how many", x, x.corners(1, 5), 3, 0);
        CHECK.told("a fourth", x, x.corner(1, 5, 3, 0), -1, 1);
        CHECK.told("twice its area", x, x.area(1, 5), 81, 0);
        CHECK.told("IN it", x, x.points(1, 5), 45, 0);
        CHECK.told("not on an EDGE that was", x, x.onEdge(1, 5, 0, 20), 0, 0);
        CHECK.told("the other PLACE is as it was", x, x.corners(0, 5), 6, 0);
        x.sale(0, 0, 0, 0, 9, 100);
        x.refund(0, 3);
        x.file(0);
        x.undo();
        x.undo();
        x.undo();
        CHECK.told("a LINE in the same row", x, x.sale(0, 20, 20, 0, 5, 10), 0, 0);
        int[] due = {0, 20, 20, 0, 5, 10, 5, 1, 13, 0};
        for (int what = 0; what < due.length; what++) {
            CHECK.told("line(0, " + what + ")", x, x.line(0, what), due[what], 0);
        }
        CHECK.told("a second PART", x, x.part(0, 1, 0), -1, 1);
        CHECK.told("a FILING in the same row", x, x.file(9), 13, 0);
        CHECK.told("its DAY", x, x.filing(0, 0), 9, 0);
        CHECK.told("what it pays q", x, x.pays(0, 1), 0, 0);
        x.turn(0, 0, 5, 7);
        x.undo();
        CHECK.told("a RATE in the same row", x, x.turn(1, 0, 3, 9), 3, 0);
        CHECK.told("the RATE that was", x, x.rate(0, 0, 999), 2500, 0);
        CHECK.told("the new one", x, x.rate(1, 0, 3), 9, 0);
    }

    // Nothing of a text read earlier is told any more, whatever it had more of.
    private static void textsReadAgain() {
        String small = "desk size 3 layers 1;class z;place y layer 0;bound y 2 0 0 3 0 3 3;rate y z 4 9";
        String due = State.of(Check.desk(small));
        SalePlaces x = Check.desk(tenPlaces() + ";bound k 0" + SIX + ";rate k a 0 5;holiday k a 0 999 price 9999;"
                + "cap k a 1");
        x.sale(0, 0, 0, 0, 9, 100);
        x.file(5);
        for (int k = 0; k < 2; k++) {
            CHECK.told("the small one", x, Check.read(x, small), 1, 0);
            CHECK.told("no area yet", x, x.area(0, 1), 0, 0);
            CHECK.told("three CORNERS", x, x.area(0, 2), 9, 0);
            CHECK.told("no RATE yet", x, x.rate(0, 0, 3), 0, 0);
            CHECK.told("no holiday", x, x.free(0, 0, 0, 1), 0, 0);
            CHECK.told("no CAP", x, x.cap(0, 0), -2, 0);
            CHECK.told("no such CLASS", x, x.above(1), -1, 1);
            CHECK.told("no such PLACE", x, x.place(1, 0), -1, 1);
            CHECK.told("a SALE on a DAY that was FILED", x, x.sale(5, 0, 0, 0, 9, 100), 0, 0);
            x.undo();
        }
        CHECK.text("told as by a new object", State.of(x), due);
        // A NAME of the earlier text isn't told, nor is one of a text with a FAULT.
        CHECK.told("k", x, Check.read(x, small + ";bound k 5 none"), -1, 4);
        CHECK.same("k isn't told", x.fault(), 2);
        CHECK.told("y", x, Check.read(x, "desk size 3 layers 1;class a;place b layer 0;rate y a 0 0"), -1, 4);
        CHECK.same("y isn't told", x.fault(), 2);
        CHECK.told("the DESK stays", x, x.corners(0, 2), 3, 0);
    }
}
