/** Terms II and III of the document, sentence by sentence. */
final class DocumentTerms {
    private static final int FAR = Integer.MIN_VALUE;
    /** An area with a notch at its west from DAY 3 on, a flat one from DAY 5 on. */
    private static final String NOTCH = "desk size 10 layers 1;class c;place p layer 0;bound p 3 0 0 8 0 8 8 0 8 4 4;"
            + "bound p 5 0 0 10 3 0 3";

    private final Walk walk;

    DocumentTerms(Walk walk) {
        this.walk = walk;
    }

    void all() {
        boundAndIn();
        settledAndStack();
        rateFreeCap();
        sale();
        tax();
        lines();
        ledgerAndWrong();
        filings();
        filingsAndSales();
        acts();
        undo();
        trouble();
        refusals();
    }

    private static int undo(SalePlaces x) {
        return x.undo() ? 1 : 0;
    }

    private void boundAndIn() {
        walk.says("II. BOUND of a PLACE on a DAY: that of the latest DAY no later;");
        SalePlaces x = Check.desk(NOTCH);
        walk.is("on its DAY", x.corners(0, 3), 5);
        walk.is("on the DAY ahead of the next", x.corners(0, 4), 5);
        walk.is("the next", x.corners(0, 5), 3);
        walk.is("on the last DAY", x.corners(0, 999), 3);
        walk.says("without one it has no area.");
        walk.is("corners", x.corners(0, 2), 0);
        walk.is("area", x.area(0, 2), 0);
        walk.is("inside", x.inside(0, 2, 5, 4), 0);
        walk.says("A POINT (whole X, Y) is IN an area, if an odd number of its EDGES (from CORNER to CORNER, from "
                + "the last to the first) lie east of it:");
        int[][] odd = {{5, 4, 1}, {1, 4, 0}, {3, 2, 1}, {1, 2, 0}, {1, 7, 1}, {0, 6, 0}, {9, 4, 0}};
        for (int[] row : odd) {
            walk.is("at " + row[0] + " " + row[1], x.inside(0, 3, row[0], row[1]), row[2]);
        }
        walk.says("of an EDGE one end's Y is above the POINT's, that of the other isn't, and at the POINT's Y "
                + "(exactly) it is at an X above the POINT's.");
        // The EDGE from 0 0 to 10 3 is at 3 and a third where Y is 1, at 6 and two thirds where it is 2.
        int[][] exact = {{3, 1, 1}, {4, 1, 0}, {6, 2, 1}, {7, 2, 0}, {0, 0, 0}, {0, 1, 1}, {0, 3, 0}, {5, 3, 0}};
        for (int[] row : exact) {
            walk.is("at " + row[0] + " " + row[1], x.inside(0, 5, row[0], row[1]), row[2]);
        }
        walk.says("(So each POINT on a border is settled alike, and is IN just one of two areas that lie at either "
                + "side of it.)");
        x = Check.desk(Desks.SLOPE);
        for (int i = 0; i < 10; i++) {
            walk.is("on the slope, in the area south-west of it", x.inside(0, 0, i, i), 0);
            walk.is("on the slope, in the area north-east of it", x.inside(1, 0, i, i), 1);
        }
    }

    private void settledAndStack() {
        walk.says("SETTLED in a LAYER on a DAY: the first PLACE of that LAYER, by number, whose BOUND has the POINT "
                + "IN.");
        SalePlaces x = Check.desk(Desks.CITY);
        walk.is("ci ahead of cj", x.settled(1, 5, 7, 5), 1);
        walk.is("cj alone", x.settled(1, 5, 12, 5), 2);
        walk.is("on the DAY ahead", x.settled(1, 4, 12, 5), -2);
        walk.is("of another LAYER", x.settled(2, 5, 7, 5), 4);
        walk.says("STACK: SETTLED PLACES by LAYERS rising, to the first that is ONLY (itself, too).");
        walk.is("two without fr", x.stack(9, 5, 15), 2);
        walk.is("the second", x.stackAt(9, 5, 15, 1), 4);
        walk.is("two with fr", x.stack(10, 5, 15), 2);
        walk.is("the first", x.stackAt(10, 5, 15, 0), 0);
        walk.is("fr itself", x.stackAt(10, 5, 15, 1), 3);
        walk.is("SETTLED behind it", x.settled(2, 10, 5, 15), 4);
        x = Check.desk("desk size 4 layers 2;class c;place p layer 1;place q layer 0;bound p 0 0 0 4 0 4 4;"
                + "bound q 0 0 0 4 0 4 4");
        walk.is("the lower LAYER first", x.stackAt(0, 2, 1, 0), 1);
        walk.is("the higher one behind it", x.stackAt(0, 2, 1, 1), 0);
    }

    private void rateFreeCap() {
        walk.says("RATE of a PLACE for a CLASS on a DAY: that told for it from the latest DAY no later;");
        SalePlaces x = Check.desk(Desks.CITY + ";rate st food 9 0;holiday ci all 0 0 price 5;cap st all 7");
        int[] days = {5, 8, 9, 999};
        int[] food = {100, 100, 0, 0};
        for (int k = 0; k < days.length; k++) {
            walk.is("food on " + days[k], x.rate(0, 1, days[k]), food[k]);
        }
        walk.says("without one that of the CLASS it is of, and so on; else 0.");
        walk.is("food has none yet", x.rate(0, 1, 4), 500);
        walk.is("wine, by food", x.rate(0, 2, 5), 100);
        walk.is("wine, by all", x.rate(0, 2, 4), 500);
        walk.is("its own", x.rate(4, 2, 0), 75);
        walk.is("not that of one of it", x.rate(4, 1, 0), 0);
        walk.is("book", x.rate(0, 3, 999), 0);
        walk.says("FREE on a DAY by a price: a holiday of the PLACE on that DAY, for the CLASS or one it is of (and "
                + "so on), with the price at most PRICE.");
        int[][] free = {{0, 1, 20, 50, 1}, {0, 1, 25, 50, 1}, {0, 1, 19, 50, 0}, {0, 1, 26, 50, 0}, {0, 2, 20, 50, 1},
            {0, 0, 20, 50, 0}, {0, 3, 20, 50, 0}, {0, 1, 20, 51, 0}, {0, 1, 20, 1, 1}, {2, 1, 20, 50, 0},
            {1, 2, 0, 5, 1},
            {1, 2, 1, 5, 0}};
        for (int[] row : free) {
            walk.is("free(" + row[0] + ", " + row[1] + ", " + row[2] + ", " + row[3] + ")",
                    x.free(row[0], row[1], row[2], row[3]), row[4]);
        }
        walk.says("CAP: that of the CLASS, else of the one it is of, and so on; else none.");
        walk.is("its own", x.cap(1, 2), 40);
        walk.is("of the one it is of", x.cap(1, 1), 300);
        walk.is("and so on", x.cap(0, 2), 7);
        walk.is("none for book", x.cap(1, 3), -2);
        walk.is("none of cj", x.cap(2, 0), -2);
    }

    private void sale() {
        walk.says("A SALE: a DAY, a POINT, a CLASS, units (1 .. 99) at a price (1 .. 9,999).");
        SalePlaces x = Check.desk(Desks.CITY);
        walk.is("the least", x, x.sale(5, 0, 0, 3, 1, 1), 0, 0);
        walk.is("the most", x, x.sale(999, 20, 20, 3, 99, 9999), 1, 0);
        int[][] no = {{0, 1}, {100, 1}, {1, 0}, {1, 10000}};
        for (int[] row : no) {
            walk.is(row[0] + " units at " + row[1], x, x.sale(5, 0, 0, 3, row[0], row[1]), -1, 2);
        }
        int[] due = {999, 20, 20, 3, 99, 9999};
        for (int what = 0; what < due.length; what++) {
            walk.is("line(1, " + what + ")", x.line(1, what), due[what]);
        }
        walk.says("PARTS: PLACES of the STACK, in order;");
        x = Check.desk(Desks.CITY);
        x.sale(5, 5, 5, 2, 3, 100);
        walk.is("how many", x.line(0, 7), 3);
        walk.is("st", x.part(0, 0, 0), 0);
        walk.is("ci", x.part(0, 1, 0), 1);
        walk.is("me", x.part(0, 2, 0), 4);
        walk.says("BASE of one: 0 if FREE, else units times the lesser of price and CAP;");
        x.sale(20, 5, 5, 2, 3, 50);
        x.sale(20, 5, 5, 2, 3, 39);
        int[][] base = {{300, 120, 300}, {0, 120, 150}, {0, 117, 117}};
        for (int l = 0; l < 3; l++) {
            for (int i = 0; i < 3; i++) {
                walk.is("BASE " + i + " of LINE " + l, x.part(l, i, 4), base[l][i]);
            }
        }
    }

    private void tax() {
        walk.says("its TAX: BASE times RATE by 10,000, to the nearest WHOLE, a half upwards.");
        SalePlaces x = Check.desk(Desks.CITY);
        x.sale(5, 5, 5, 2, 3, 100);
        int[] tax = {3, 2, 2};
        for (int i = 0; i < 3; i++) {
            walk.is("TAX " + i, x.part(0, i, 5), tax[i]);
        }
        int[][] nearest = {{9, 0}, {10, 1}, {29, 1}, {30, 2}, {31, 2}};
        for (int[] row : nearest) {
            walk.is("500 of 10,000 of " + row[0], x.due(0, 15, 15, 0, 1, row[0]), row[1]);
        }
        walk.says("DUE: TAXES of all PARTS together.");
        walk.is("of the LINE", x.line(0, 8), 7);
        walk.is("of one that isn't booked", x.due(5, 5, 5, 2, 3, 100), 7);
        walk.is("without PARTS", x.due(5, 20, 20, 2, 3, 100), 0);
    }

    private void lines() {
        walk.says("A LINE of THE BOOK (40 at most): a SALE;");
        SalePlaces x = Check.desk(Desks.PLAIN);
        for (int l = 0; l < 40; l++) {
            walk.is("a SALE", x, x.sale(l, 1, 1, 0, 1, 100), l, 0);
        }
        walk.is("one more", x, x.sale(40, 1, 1, 0, 1, 100), -1, 3);
        walk.is("forty", x.about(8), 40);
        walk.says("its PARTS, RATES, CAPS, FREE ones are as they were when it was booked, whatever moves later.");
        x = Check.desk(Desks.PLAIN + ";cap p c 90;holiday q c 0 9 price 50;place r layer 0;bound r 0 0 0 4 0 4 4 0 4");
        x.sale(5, 1, 1, 0, 4, 100);
        x.sale(5, 1, 1, 0, 4, 50);
        x.turn(1, 0, 5, 2500);
        x.move(0, 5, 0, 0);
        x.move(1, 5, 2, 0);
        walk.is("q is away", x.stack(5, 1, 1), 1);
        int[][] parts = {{0, 1000, 90, 0, 360, 36}, {1, 500, -2, 0, 400, 20}, {0, 1000, 90, 0, 200, 20},
            {1, 500, -2, 1, 0, 0}};
        for (int k = 0; k < 4; k++) {
            for (int what = 0; what < 6; what++) {
                walk.is("part(" + k / 2 + ", " + k % 2 + ", " + what + ")", x.part(k / 2, k % 2, what), parts[k][what]);
            }
        }
        walk.says("REFUNDED units: TAX of each PART is from then on that of the units left.");
        x.refund(0, 3);
        walk.is("p's BASE", x.part(0, 0, 4), 90);
        walk.is("p's", x.part(0, 0, 5), 9);
        walk.is("q's", x.part(0, 1, 5), 5);
        walk.is("both", x.line(0, 8), 14);
        walk.is("the other LINE", x.line(1, 8), 20);
    }

    private void ledgerAndWrong() {
        walk.says("LEDGER: by PLACE and CLASS (the SALE's) TAXES of all LINES, ENTRIES in the order in which each "
                + "came first (those of 0, too).");
        SalePlaces x = Check.desk(Desks.PLAIN);
        x.sale(0, 3, 1, 1, 1, 100);
        x.sale(0, 1, 1, 0, 2, 100);
        x.sale(0, 1, 1, 1, 1, 100);
        int[][] due = {{0, 1, 20}, {0, 0, 20}, {1, 0, 10}, {1, 1, 0}};
        walk.is("how many", x.entries(), 4);
        for (int i = 0; i < 4; i++) {
            for (int what = 0; what < 3; what++) {
                walk.is("entry(" + i + ", " + what + ")", x.entry(i, what), due[i][what]);
            }
        }
        walk.says("WRONG is a LINE whose DUE of the units left would be another one, were it booked now.");
        x = Check.desk(Desks.PLAIN);
        x.sale(5, 1, 1, 0, 3, 100);
        x.sale(4, 1, 1, 0, 3, 100);
        x.sale(5, 1, 1, 0, 1, 10);
        walk.is("none", x.wrong(), 0);
        x.turn(1, 0, 5, 600);
        walk.is("one, the last one's is rounded alike", x.wrong(), 1);
        walk.is("which", x.owed(0), 3);
        x.refund(0, 2);
        walk.is("of the unit left", x.owed(0), 1);
        x.refund(0, 1);
        walk.is("of none left", x.wrong(), 0);
        x.move(1, 4, 2, 0);
        walk.is("a bound moved away", x.owed(1), -15);
        walk.is("the last one, too", x.wrong(), 2);
    }

    private void filings() {
        walk.says("A FILING up to a DAY: LINES of DAYS up to it that aren't FILED are FILED then;");
        SalePlaces x = Check.desk(Desks.PLAIN);
        x.sale(3, 1, 1, 0, 2, 100);
        x.sale(6, 3, 1, 0, 1, 100);
        x.sale(5, 3, 1, 0, 1, 100);
        int paid = x.file(5);
        int[] filed = {1, 0, 1};
        for (int l = 0; l < 3; l++) {
            walk.is("line(" + l + ", 9)", x.line(l, 9), filed[l]);
        }
        walk.is("how many", x.filing(0, 1), 2);
        walk.says("it pays each PLACE TAXES of their units left, and CORRECTIONS: what REFUNDS of FILED LINES made "
                + "less since the FILING ahead.");
        walk.is("all together", paid, 40);
        walk.is("to p", x.pays(0, 0), 30);
        walk.is("to q", x.pays(0, 1), 10);
        x.refund(0, 1);
        walk.is("of both, and of the LINE of DAY 6", x.pending(6, -1), -5);
        walk.is("the second", x, x.file(6), -5, 0);
        walk.is("it pays p", x.pays(1, 0), 0);
        walk.is("it pays q", x.pays(1, 1), -5);
        walk.is("it FILED", x.filing(1, 1), 1);
        walk.is("nothing since", x.pending(7, -1), 0);
        walk.says("(All FILINGS and what is pending are TAXES of THE LEDGER.)");
        x.sale(8, 1, 1, 1, 7, 100);
        x.refund(1, 1);
        for (int p = -1; p < 2; p++) {
            walk.is("of " + p, x.pays(0, p) + x.pays(1, p) + x.pending(999, p), x.taxes(p, -1));
        }
        walk.is("TAXES", x.taxes(-1, -1), 15 + 10 + 70);
    }

    private void filingsAndSales() {
        walk.says("No SALE is booked any more on a DAY up to the latest FILING's.");
        SalePlaces x = Check.desk(Desks.PLAIN);
        x.file(3);
        x.file(5);
        walk.is("on the first DAY", x, x.sale(0, 1, 1, 0, 1, 1), -1, 5);
        walk.is("on its DAY", x, x.sale(5, 1, 1, 0, 1, 1), -1, 5);
        walk.is("on the DAY behind it", x, x.sale(6, 1, 1, 0, 1, 1), 0, 0);
        walk.says("Up to 12.");
        for (int k = 2; k < 12; k++) {
            walk.is("filing " + k, x, x.file(10 * k), 0, 0);
        }
        walk.is("a thirteenth", x, x.file(999), FAR, 3);
        walk.is("twelve", x.filings(), 12);
    }

    private void acts() {
        walk.says("ACTS: a FILING, a SALE booked, a REFUND, a BOUND moved (a new one from a DAY on), a RATE turned.");
        SalePlaces x = Check.desk(Desks.PLAIN);
        x.file(2);
        walk.is("a FILING", x.size(1), 1);
        x.sale(3, 1, 1, 0, 2, 100);
        walk.is("a SALE", x.size(1), 2);
        x.refund(0, 1);
        walk.is("a REFUND", x.size(1), 3);
        x.move(0, 3, 0, 0);
        walk.is("a BOUND moved", x.size(1), 4);
        walk.is("a new one", x.place(0, 2), 2);
        x.turn(0, 0, 3, 7);
        walk.is("a RATE turned", x.size(1), 5);
        x.file(2);
        x.sale(2, 1, 1, 0, 2, 100);
        x.refund(0, 2);
        x.move(0, 3, 0, 0);
        x.turn(0, 0, 3, 7);
        walk.is("refused ones are none", x.size(1), 5);
        x.due(3, 1, 1, 0, 2, 100);
        x.pending(3, -1);
        x.wrong();
        x.feed(0, 0, 0, 0, 0);
        walk.is("nor are others", x.size(1), 5);
    }

    private void undo() {
        walk.says("UNDO: the latest not undone yet (8 are kept).");
        String[] states = new String[10];
        for (int k = 0; k < 10; k++) {
            states[k] = withoutUndo(State.of(nine(k)));
        }
        for (int back = 1; back <= 9; back++) {
            SalePlaces x = nine(9);
            for (int k = 1; k <= back; k++) {
                walk.is("undo " + k, x, undo(x), k <= 8 ? 1 : 0, k <= 8 ? 0 : 1);
            }
            walk.alike("back by " + back, withoutUndo(State.of(x)), states[9 - Math.min(8, back)]);
        }
        SalePlaces x = nine(9);
        undo(x);
        undo(x);
        walk.is("a new ACT behind two undone", x, x.turn(0, 1, 50, 9), 5, 0);
        walk.is("undone itself", undo(x), 1);
        walk.alike("the one ahead of it stands", withoutUndo(State.of(x)), states[7]);
    }

    // So many of nine ACTS of all sorts.
    private static SalePlaces nine(int acts) {
        SalePlaces x = Check.desk(Desks.PLAIN);
        for (int k = 1; k <= acts; k++) {
            switch (k) {
                case 1 -> x.sale(1, 1, 1, 0, 9, 100);
                case 2 -> x.sale(4, 3, 1, 1, 5, 100);
                case 3 -> x.refund(0, 2);
                case 4 -> x.turn(1, 0, 1, 700);
                case 5 -> x.file(2);
                case 6 -> x.refund(0, 3);
                case 7 -> x.move(1, 3, 1, 0);
                case 8 -> x.file(4);
                default -> x.refund(1, 5);
            }
        }
        return x;
    }

    // Of what can be undone only 8 are told, whatever stands.
    private static String withoutUndo(String state) {
        String[] words = state.split(" ");
        words[4] = "";
        return String.join(" ", words);
    }

    private void trouble() {
        walk.says("III. TROUBLE of the latest call that may be refused (those of which a number is told here): 0 it "
                + "wasn't;");
        SalePlaces x = new SalePlaces();
        walk.is("of a new object", x.trouble(), 0);
        x = Check.desk(Desks.PLAIN);
        x.about(9);
        x.about(0);
        walk.is("granted behind a refused one", x.trouble(), 0);
        x.about(9);
        x.feed(0, 0, 0, 0, 0);
        x.fault();
        x.where();
        x.size(9);
        x.trouble();
        x.idle(0);
        walk.is("calls without a number leave it", x.trouble(), 1);
        walk.says("1 there is none such;");
        walk.is("above(2)", x, x.above(2), -1, 1);
        walk.says("2 a number;");
        walk.is("corners(0, 1000)", x, x.corners(0, 1000), -1, 2);
        walk.says("3 no room;");
        for (int l = 0; l <= 40; l++) {
            x.sale(0, 1, 1, 0, 1, 1);
        }
        walk.is("41 LINES", x.trouble(), 3);
        walk.says("4 a FAULT;");
        walk.is("desk(20)", x, x.desk(20), -1, 4);
        walk.says("5 not so.");
        walk.is("overlap(0, 1, 0)", x, x.overlap(0, 1, 0), -1, 5);
    }

    private void refusals() {
        walk.says("Refusals are met in the order in which a call tells them;");
        SalePlaces x = Check.desk(Desks.PLAIN);
        x.file(5);
        walk.is("1 ahead of 2", x, x.corners(2, 1000), -1, 1);
        walk.is("what ahead of the DAY", x, x.corner(0, 1000, 9, 2), -1, 1);
        walk.is("the DAY ahead of i", x, x.corner(0, 1000, 9, 1), -1, 2);
        walk.is("the POINT ahead of i", x, x.stackAt(0, 5, 0, 9), -1, 2);
        walk.is("5 ahead of 2", x, x.overlap(0, 1, 1000), -1, 5);
        walk.is("1 ahead of 5", x, x.sale(3, 1, 1, 2, 1, 1), -1, 1);
        walk.is("2 ahead of 5", x, x.sale(3, 1, 1, 0, 1, 0), -1, 2);
        for (int l = 0; l < 40; l++) {
            x.sale(6, 1, 1, 0, 1, 1);
        }
        walk.is("5 ahead of 3", x, x.sale(3, 1, 1, 0, 1, 1), -1, 5);
        walk.says("1 comes first without a DESK.");
        x = new SalePlaces();
        walk.is("stacked(9, 9999)", x, x.stacked(9, 9999), -1, 1);
        walk.is("sale(-1, -1, -1, -1, -1, -1)", x, x.sale(-1, -1, -1, -1, -1, -1), -1, 1);
        walk.is("file(-1)", x, x.file(-1), FAR, 1);
        walk.says("DAYS of calls are 0 .. 999, POINTS 0 .. SIZE each: else 2.");
        x = Check.desk(Desks.PLAIN);
        int[][] points = {{0, 0, 0, 0}, {999, 4, 4, 0}, {-1, 0, 0, 2}, {1000, 0, 0, 2}, {0, -1, 0, 2}, {0, 0, -1, 2},
            {0, 5, 0, 2}, {0, 0, 5, 2}};
        for (int[] row : points) {
            x.stack(row[0], row[1], row[2]);
            walk.is("stack(" + row[0] + ", " + row[1] + ", " + row[2] + ")", x.trouble(), row[3]);
        }
    }
}
