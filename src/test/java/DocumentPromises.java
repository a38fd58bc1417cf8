import java.util.NoSuchElementException;

/** Promises 1 to 48 of the document, sentence by sentence. */
final class DocumentPromises {
    private static final int FAR = Integer.MIN_VALUE;
    private static final int BLANKS = 0x20202020;

    private final Walk walk;

    DocumentPromises(Walk walk) {
        this.walk = walk;
    }

    void all() {
        newObject();
        feed();
        desk();
        faultAndWhere();
        aboutAndAbove();
        place();
        corners();
        area();
        insideAndOnEdge();
        nextMove();
        settledAndStack();
        nextStack();
        overlapAndPoints();
        stacked();
        rates();
        cheapest();
        due();
        line();
        part();
        ledger();
        filings();
        pending();
        wrongAndOwed();
        file();
        sale();
        refund();
        move();
        turn();
        undo();
        idle();
        sizeAndTrouble();
    }

    private static int undo(SalePlaces x) {
        return x.undo() ? 1 : 0;
    }

    /** A LINE of DAY 3 with 2 of 3 units left, FILED up to DAY 4; one of DAY 6 with 4 units; both of p and q. */
    private static SalePlaces booked() {
        SalePlaces x = Check.desk(Desks.PLAIN);
        x.sale(3, 1, 1, 0, 3, 100);
        x.file(4);
        x.refund(0, 1);
        x.sale(6, 1, 2, 1, 4, 200);
        return x;
    }

    private void newObject() {
        walk.says("`SalePlaces()`: No DESK.");
        SalePlaces x = new SalePlaces();
        walk.is("about(0)", x, x.about(0), -1, 1);
        walk.is("entries()", x, x.entries(), -1, 1);
        walk.is("undo()", x, undo(x), 0, 1);
    }

    private void feed() {
        walk.says("`int feed(int a, int b, int c, int d, int e)`: Twenty bytes come behind THE TAPE, of each number "
                + "the highest first: how many it has;");
        SalePlaces x = new SalePlaces();
        walk.is("desk size 7 layers 3", x.feed(0x6465736b, 0x2073697a, 0x65203720, 0x6c617965, 0x72732033), 20);
        walk.is(";class c;place p lay", x.feed(0x3b636c61, 0x73732063, 0x3b706c61, 0x63652070, 0x206c6179), 40);
        walk.is("er 2", x.feed(0x65722032, BLANKS, BLANKS, BLANKS, BLANKS), 60);
        walk.is("read as it was fed", x, x.desk(44), 1, 0);
        walk.is("SIZE", x.about(0), 7);
        walk.is("LAYER", x.place(0, 0), 2);
        walk.says("NONE, and none comes, if there would be more than 1,200.");
        for (int k = 1; k <= 60; k++) {
            walk.is("blanks", x.feed(BLANKS, BLANKS, BLANKS, BLANKS, BLANKS), 20 * k);
        }
        walk.is("more", x.feed(0, 0, 0, 0, 0), -1);
        walk.is("none came", x.size(0), 1200);
        walk.is("all blanks", x, x.desk(1200), -1, 4);
        walk.is("up to the end", x.where(), 1200);
    }

    private void desk() {
        walk.says("`int desk(int n)`: The first n bytes of THE TAPE (it is empty then) are the DESK from now on (THE "
                + "BOOK empty, nothing to undo): how many PLACES.");
        SalePlaces x = booked();
        Check.feed(x, Desks.SLOPE + ";cap x");
        walk.is("the first n bytes", x, x.desk(Desks.SLOPE.length()), 2, 0);
        walk.is("empty", x.size(0), 0);
        walk.is("SIZE", x.about(0), 10);
        walk.is("LINES", x.about(8), 0);
        walk.is("FILINGS", x.filings(), 0);
        walk.is("what can be undone", x.size(1), 0);
        walk.says("NONE: 2 (THE TAPE stays);");
        Check.feed(x, Desks.PLAIN);
        int fed = x.size(0);
        walk.is("-1", x, x.desk(-1), -1, 2);
        walk.is("more than there are", x, x.desk(fed + 1), -1, 2);
        walk.is("it stays", x.size(0), fed);
        walk.is("all of it", x, x.desk(fed), 2, 0);
        walk.says("4 (the DESK stays).");
        x = booked();
        String still = State.of(x).substring("fault, sizes 0 ".length());
        x = booked();
        walk.is("a FAULT", x, Check.read(x, "desk size 9 layers 1;class e;place f layer 0;rate f f"), -1, 4);
        walk.alike("the DESK, THE BOOK, FILINGS, what can be undone", State.of(x).substring("fault, sizes 2 ".length()),
                still);
    }

    private void faultAndWhere() {
        walk.says("`int fault()`: The FAULT of the latest desk() not refused by 2; 0 without one.");
        SalePlaces x = new SalePlaces();
        walk.is("without one", x.fault(), 0);
        Check.read(x, "desk size 9 layers 9");
        walk.is("4", x.fault(), 4);
        x.desk(1);
        walk.is("behind one refused by 2", x.fault(), 4);
        Check.read(x, Desks.PLAIN);
        walk.is("behind one without a FAULT", x.fault(), 0);
        walk.says("`int where()`: Its place, if the latest call that may be refused was by 4; NONE else.");
        walk.is("without a FAULT", x.where(), -1);
        Check.read(x, "desk size 9 layers 9");
        walk.is("its place", x.where(), 19);
        x.size(0);
        walk.is("behind a call that can't be refused", x.where(), 19);
        x.about(0);
        walk.is("behind one that may be", x.where(), -1);
        Check.read(x, "desk size 9 layers 9");
        x.desk(1);
        walk.is("behind one refused by 2", x.where(), -1);
    }

    private void aboutAndAbove() {
        walk.says("`int about(int what)`: 0 SIZE, 1 LAYERS, 2 CLASSES, 3 PLACES, 4 bounds, 5 rates, 6 holidays, 7 "
                + "caps, 8 LINES of THE BOOK.");
        SalePlaces x = Check.desk(Desks.CITY + ";rate me all 0 3;rate me wine 5 3;holiday me all 0 0 price 1;"
                + "holiday me all 1 1 price 1;cap me all 1;cap me food 1;cap me wine 1");
        x.sale(0, 0, 0, 0, 1, 1);
        int[] due = {20, 3, 4, 6, 6, 8, 3, 5, 1};
        for (int what = 0; what < due.length; what++) {
            walk.is("about(" + what + ")", x, x.about(what), due[what], 0);
        }
        walk.says("NONE: 1 (what, too).");
        walk.is("about(9)", x, x.about(9), -1, 1);
        walk.is("about(-1)", x, x.about(-1), -1, 1);
        walk.is("no DESK", new SalePlaces().about(0), -1);
        walk.says("`int above(int c)`: The CLASS that a CLASS is of; -2.");
        int[] above = {-2, 0, 1, -2};
        for (int c = 0; c < above.length; c++) {
            walk.is("above(" + c + ")", x, x.above(c), above[c], 0);
        }
        walk.says("NONE: 1.");
        walk.is("above(4)", x, x.above(4), -1, 1);
        walk.is("above(-1)", x, x.above(-1), -1, 1);
    }

    private void place() {
        walk.says("`int place(int p, int what)`: Of a PLACE 0 its LAYER, 1 1 if it is ONLY, 2 how many bounds it has.");
        SalePlaces x = Check.desk(Desks.CITY);
        int[][] due = {{0, 0, 1}, {1, 0, 1}, {1, 0, 1}, {1, 1, 1}, {2, 0, 2}, {2, 0, 0}};
        for (int p = 0; p < due.length; p++) {
            for (int what = 0; what < 3; what++) {
                walk.is("place(" + p + ", " + what + ")", x, x.place(p, what), due[p][what], 0);
            }
        }
        walk.says("NONE: 1.");
        walk.is("place(6, 0)", x, x.place(6, 0), -1, 1);
        walk.is("place(-1, 0)", x, x.place(-1, 0), -1, 1);
        walk.is("place(0, 3)", x, x.place(0, 3), -1, 1);
        walk.is("place(0, -1)", x, x.place(0, -1), -1, 1);
    }

    private void corners() {
        walk.says("`int corners(int p, int day)`: How many CORNERS a PLACE's BOUND has on a DAY (0: no area).");
        SalePlaces x = Check.desk(Desks.SLOPE);
        int[] days = {0, 2, 3, 5, 6, 999};
        int[] many = {3, 3, 0, 0, 4, 4};
        for (int k = 0; k < days.length; k++) {
            walk.is("on " + days[k], x, x.corners(1, days[k]), many[k], 0);
        }
        walk.says("NONE: 1; 2.");
        walk.is("no such PLACE", x, x.corners(2, 1000), -1, 1);
        walk.is("no DAY", x, x.corners(1, 1000), -1, 2);
        walk.says("`int corner(int p, int day, int i, int what)`: The i-th of them, 0 X, 1 Y.");
        int[][] xy = {{2, 2}, {8, 2}, {8, 8}, {2, 8}};
        for (int i = 0; i < 4; i++) {
            walk.is("X " + i, x, x.corner(1, 6, i, 0), xy[i][0], 0);
            walk.is("Y " + i, x, x.corner(1, 6, i, 1), xy[i][1], 0);
        }
        walk.says("NONE: 1 (no such PLACE, what); 2; 1 (i).");
        walk.is("no such PLACE", x, x.corner(2, 1000, 4, 0), -1, 1);
        walk.is("no such what", x, x.corner(1, 1000, 4, 2), -1, 1);
        walk.is("no DAY", x, x.corner(1, 1000, 4, 0), -1, 2);
        walk.is("no fifth", x, x.corner(1, 6, 4, 0), -1, 1);
        walk.is("of no area", x, x.corner(1, 3, 0, 0), -1, 1);
        walk.is("no -1st", x, x.corner(1, 6, -1, 0), -1, 1);
    }

    private void area() {
        walk.says("`int area(int p, int day)`: Twice the area, CORNER by CORNER x of the first times y of the second "
                + "less x of the second times y of the first, all together (may be below 0).");
        SalePlaces x = Check.desk("desk size 9 layers 1;class c;place p layer 0;bound p 1 1 2 7 3 4 8;"
                + "bound p 2 4 8 7 3 1 2;bound p 3 none");
        // 1 * 3 - 7 * 2, 7 * 8 - 4 * 3, 4 * 2 - 1 * 8.
        int[] due = {0, -11 + 44 + 0, -33, 0};
        for (int day = 0; day < due.length; day++) {
            walk.is("on " + day, x, x.area(0, day), due[day], 0);
        }
        walk.says("Integer.MIN_VALUE: 1; 2.");
        walk.is("no such PLACE", x, x.area(1, 1000), FAR, 1);
        walk.is("no DAY", x, x.area(0, 1000), FAR, 2);
    }

    private void insideAndOnEdge() {
        walk.says("`int inside(int p, int day, int x, int y)`: 1 if a POINT is IN it, 0.");
        // Its EDGES: along Y 2 from 3 to 7, along X 7 from 2 to 6, and the slope between 7 6 and 3 2.
        SalePlaces x = Check.desk("desk size 9 layers 1;class c;place p layer 0;bound p 0 3 2 7 2 7 6");
        int[][] in = {{5, 3, 1}, {3, 2, 1}, {6, 2, 1}, {7, 4, 0}, {5, 4, 1}, {4, 4, 0}, {7, 6, 0}, {6, 5, 1},
            {2, 2, 0}};
        for (int[] row : in) {
            walk.is("inside at " + row[0] + " " + row[1], x, x.inside(0, 5, row[0], row[1]), row[2], 0);
        }
        walk.says("NONE: 1; 2.");
        walk.is("no such PLACE", x, x.inside(1, 0, 10, 0), -1, 1);
        walk.is("no DAY", x, x.inside(0, -1, 5, 3), -1, 2);
        walk.is("no POINT", x, x.inside(0, 0, 10, 0), -1, 2);
        walk.says("`int onEdge(int p, int day, int x, int y)`: 1 if a POINT lies on one of its EDGES, 0.");
        int[][] on = {{3, 2, 1}, {7, 2, 1}, {7, 6, 1}, {5, 2, 1}, {7, 4, 1}, {5, 4, 1}, {6, 3, 0}, {5, 5, 0},
            // On the line of an EDGE, ahead of it or behind it.
            {2, 2, 0}, {8, 2, 0}, {7, 1, 0}, {7, 7, 0}, {2, 1, 0}, {8, 7, 0}, {0, 2, 0}, {9, 2, 0}, {7, 0, 0},
            {7, 9, 0}};
        for (int[] row : on) {
            walk.is("onEdge at " + row[0] + " " + row[1], x, x.onEdge(0, 5, row[0], row[1]), row[2], 0);
        }
        walk.says("NONE: 1; 2.");
        walk.is("no such PLACE", x, x.onEdge(1, 0, 10, 0), -1, 1);
        walk.is("no DAY", x, x.onEdge(0, 1000, 5, 3), -1, 2);
        walk.is("no POINT", x, x.onEdge(0, 0, 0, 10), -1, 2);
    }

    private void nextMove() {
        walk.says("`int nextMove(int p, int day)`: The next DAY behind one on which another bound of a PLACE begins; "
                + "-2.");
        SalePlaces x = Check.desk(Desks.SLOPE);
        int[][] due = {{1, 0, 3}, {1, 2, 3}, {1, 3, 6}, {1, 5, 6}, {1, 6, -2}, {0, 0, -2}};
        for (int[] row : due) {
            walk.is("nextMove(" + row[0] + ", " + row[1] + ")", x, x.nextMove(row[0], row[1]), row[2], 0);
        }
        walk.says("NONE: 1; 2.");
        walk.is("no such PLACE", x, x.nextMove(2, 1000), -1, 1);
        walk.is("no DAY", x, x.nextMove(1, -1), -1, 2);
    }

    private void settledAndStack() {
        walk.says("`int settled(int layer, int day, int x, int y)`: The PLACE in which a POINT is SETTLED in a "
                + "LAYER; -2.");
        SalePlaces x = Check.desk(Desks.CITY);
        int[][] due = {{0, 0, 5, 5, 0}, {1, 5, 5, 5, 1}, {1, 5, 10, 5, 2}, {1, 5, 15, 5, -2}, {1, 10, 0, 10, 3},
            {2, 29, 19, 19, 4}, {2, 30, 19, 19, -2}, {0, 0, 20, 0, -2}};
        for (int[] row : due) {
            walk.is("LAYER " + row[0] + " on " + row[1] + " at " + row[2] + " " + row[3], x,
                    x.settled(row[0], row[1], row[2], row[3]), row[4], 0);
        }
        walk.says("NONE: 1 (no such LAYER); 2.");
        walk.is("no such LAYER", x, x.settled(3, 1000, 5, 5), -1, 1);
        walk.is("LAYER -1", x, x.settled(-1, 0, 5, 5), -1, 1);
        walk.is("no DAY", x, x.settled(0, 1000, 5, 5), -1, 2);
        walk.is("no POINT", x, x.settled(0, 0, 5, 21), -1, 2);
        walk.says("`int stack(int day, int x, int y)`: How many PLACES its STACK has.");
        int[][] many = {{0, 5, 5, 3}, {0, 15, 5, 2}, {5, 12, 5, 3}, {10, 5, 15, 2}, {30, 15, 15, 1}, {0, 20, 20, 0}};
        for (int[] row : many) {
            walk.is("on " + row[0] + " at " + row[1] + " " + row[2], x, x.stack(row[0], row[1], row[2]), row[3], 0);
        }
        walk.says("NONE: 1; 2.");
        walk.is("no DESK", new SalePlaces().stack(0, 0, 0), -1);
        walk.is("no DAY", x, x.stack(-1, 5, 5), -1, 2);
        walk.is("no POINT", x, x.stack(0, 21, 5), -1, 2);
        walk.says("`int stackAt(int day, int x, int y, int i)`: The i-th of them.");
        int[] places = {0, 2, 4};
        for (int i = 0; i < 3; i++) {
            walk.is("the one at " + i, x, x.stackAt(5, 12, 5, i), places[i], 0);
        }
        walk.says("NONE: 1 (no DESK); 2; 1 (i).");
        walk.is("no DESK", new SalePlaces().stackAt(0, 0, 0, 0), -1);
        walk.is("no POINT", x, x.stackAt(5, 12, -1, 3), -1, 2);
        walk.is("no fourth", x, x.stackAt(5, 12, 5, 3), -1, 1);
        walk.is("no -1st", x, x.stackAt(5, 12, 5, -1), -1, 1);
    }

    private void nextStack() {
        walk.says("`int nextStack(int day, int x, int y)`: The first DAY behind one on which its STACK is another "
                + "one; -2.");
        SalePlaces x = Check.desk(Desks.CITY);
        int[][] due = {{0, 12, 5, 5}, {4, 12, 5, 5}, {5, 12, 5, 30}, {0, 7, 5, 30}, {0, 5, 15, 10}, {10, 5, 15, -2},
            {30, 12, 5, -2}, {0, 20, 20, -2}};
        for (int[] row : due) {
            walk.is("behind " + row[0] + " at " + row[1] + " " + row[2], x, x.nextStack(row[0], row[1], row[2]), row[3],
                    0);
        }
        walk.says("NONE: 1; 2.");
        walk.is("no DESK", new SalePlaces().nextStack(0, 0, 0), -1);
        walk.is("no DAY", x, x.nextStack(1000, 5, 5), -1, 2);
        walk.is("no POINT", x, x.nextStack(0, 5, 21), -1, 2);
    }

    private void overlapAndPoints() {
        walk.says("`int overlap(int p, int q, int day)`: How many POINTS are IN two PLACES of one LAYER both.");
        SalePlaces x = Check.desk(Desks.CITY);
        walk.is("on the DAY ahead", x, x.overlap(1, 2, 4), 0, 0);
        walk.is("X 5 to 9, Y 0 to 9", x, x.overlap(1, 2, 5), 50, 0);
        walk.is("the other way", x, x.overlap(2, 1, 5), 50, 0);
        walk.says("NONE: 1 (unlike PLACES); 5 (of unlike LAYERS); 2.");
        walk.is("no such PLACE", x, x.overlap(1, 6, 1000), -1, 1);
        walk.is("one PLACE", x, x.overlap(1, 1, 1000), -1, 1);
        walk.is("of unlike LAYERS", x, x.overlap(0, 1, 1000), -1, 5);
        walk.is("no DAY", x, x.overlap(1, 2, 1000), -1, 2);
        walk.says("`int points(int p, int day)`: How many POINTS are SETTLED in a PLACE.");
        int[][] due = {{0, 0, 400}, {1, 5, 100}, {2, 4, 0}, {2, 5, 50}, {3, 10, 100}, {4, 29, 400}, {4, 30, 0},
            {5, 0, 0}};
        for (int[] row : due) {
            walk.is("points(" + row[0] + ", " + row[1] + ")", x, x.points(row[0], row[1]), row[2], 0);
        }
        walk.says("NONE: 1; 2.");
        walk.is("no such PLACE", x, x.points(6, 1000), -1, 1);
        walk.is("no DAY", x, x.points(0, 1000), -1, 2);
    }

    private void stacked() {
        walk.says("`int stacked(int many, int day)`: How many POINTS have a STACK of so many (0 .. 4).");
        SalePlaces x = Check.desk(Desks.CITY);
        int[][] due = {{0, 41, 0, 300, 100, 0}, {5, 41, 0, 250, 150, 0}, {10, 41, 0, 250, 150, 0},
            {30, 41, 150, 250, 0, 0}};
        for (int[] row : due) {
            for (int many = 0; many <= 4; many++) {
                walk.is("stacked(" + many + ", " + row[0] + ")", x, x.stacked(many, row[0]), row[many + 1], 0);
            }
        }
        walk.says("NONE: 1; 2 (both).");
        walk.is("no DESK", new SalePlaces().stacked(0, 0), -1);
        walk.is("5", x, x.stacked(5, 0), -1, 2);
        walk.is("-1", x, x.stacked(-1, 0), -1, 2);
        walk.is("no DAY", x, x.stacked(0, 1000), -1, 2);
    }

    private void rates() {
        walk.says("`int rate(int p, int c, int day)`: RATE.");
        SalePlaces x = Check.desk(Desks.CITY);
        walk.is("its own", x, x.rate(0, 1, 5), 100, 0);
        walk.is("that of the CLASS it is of", x, x.rate(3, 2, 0), 1000, 0);
        walk.is("none", x, x.rate(5, 0, 0), 0, 0);
        walk.says("NONE: 1 (PLACE, CLASS); 2.");
        walk.is("no such PLACE", x, x.rate(6, 0, 1000), -1, 1);
        walk.is("no such CLASS", x, x.rate(0, 4, 1000), -1, 1);
        walk.is("no DAY", x, x.rate(0, 0, 1000), -1, 2);
        walk.says("`int free(int p, int c, int day, int price)`: 1 if it is FREE by a price (1 .. 9,999), 0.");
        walk.is("by 50", x, x.free(0, 1, 20, 50), 1, 0);
        walk.is("by 51", x, x.free(0, 1, 20, 51), 0, 0);
        walk.is("by 9,999", x, x.free(0, 1, 20, 9999), 0, 0);
        walk.is("by 1", x, x.free(0, 1, 20, 1), 1, 0);
        walk.says("NONE: 1; 2.");
        walk.is("no such PLACE", x, x.free(6, 1, 1000, 0), -1, 1);
        walk.is("no such CLASS", x, x.free(0, 4, 1000, 0), -1, 1);
        walk.is("no DAY", x, x.free(0, 1, 1000, 50), -1, 2);
        walk.is("by 0", x, x.free(0, 1, 20, 0), -1, 2);
        walk.is("by 10,000", x, x.free(0, 1, 20, 10000), -1, 2);
        walk.says("`int cap(int p, int c)`: CAP; -2 none.");
        walk.is("its own", x, x.cap(1, 2), 40, 0);
        walk.is("none", x, x.cap(0, 2), -2, 0);
        walk.says("NONE: 1.");
        walk.is("no such PLACE", x, x.cap(6, 0), -1, 1);
        walk.is("no such CLASS", x, x.cap(0, 4), -1, 1);
    }

    private void cheapest() {
        walk.says("`int stackRate(int day, int x, int y, int c)`: RATES of all PLACES of a POINT's STACK together.");
        SalePlaces x = Check.desk(Desks.CITY);
        walk.is("st, ci, me", x, x.stackRate(4, 5, 5, 2), 500 + 200 + 75, 0);
        walk.is("st, cj, me", x, x.stackRate(5, 12, 5, 2), 100 + 250 + 75, 0);
        walk.is("st, fr", x, x.stackRate(10, 5, 15, 2), 100 + 1000, 0);
        walk.is("nobody", x, x.stackRate(10, 20, 15, 2), 0, 0);
        walk.says("NONE: 1 (no such CLASS); 2.");
        walk.is("no such CLASS", x, x.stackRate(1000, 5, 5, 4), -1, 1);
        walk.is("no DAY", x, x.stackRate(1000, 5, 5, 0), -1, 2);
        walk.is("no POINT", x, x.stackRate(0, 21, 5, 0), -1, 2);
        walk.says("`int cheapest(int day, int c)`: The POINT with the least of these, by Y, then by X the first: X "
                + "and 100 times Y.");
        walk.is("ahead of it all are dearer", x, x.cheapest(0, 0), 20, 0);
        walk.is("all alike", x, x.cheapest(0, 3), 0, 0);
        SalePlaces y = Check.desk("desk size 4 layers 1;class c;place p layer 0;place q layer 0;rate p c 0 5;"
                + "bound p 0 0 0 2 0 2 4 0 4;bound q 0 2 1 4 1 4 4 2 4");
        walk.is("the first of Y 0, ahead of those of X 0", y, y.cheapest(0, 0), 2, 0);
        walk.says("NONE: 1 (no such CLASS); 2.");
        walk.is("no such CLASS", x, x.cheapest(1000, 4), -1, 1);
        walk.is("no DAY", x, x.cheapest(1000, 0), -1, 2);
    }

    private void due() {
        walk.says("`int due(int day, int x, int y, int c, int units, int price)`: DUE of a SALE that isn't booked.");
        SalePlaces x = Check.desk(Desks.CITY);
        walk.is("due(5, 5, 5, 2, 3, 100)", x, x.due(5, 5, 5, 2, 3, 100), 3 + 2 + 2, 0);
        walk.is("not booked", x.about(8), 0);
        walk.is("nothing to undo", x.size(1), 0);
        walk.says("NONE: 1 (no such CLASS); 2.");
        walk.is("no such CLASS", x, x.due(1000, 21, 21, 4, 0, 0), -1, 1);
        int[][] no = {{1000, 5, 5, 3, 100}, {5, 21, 5, 3, 100}, {5, 5, 21, 3, 100}, {5, 5, 5, 0, 100},
            {5, 5, 5, 100, 100},
            {5, 5, 5, 3, 0}, {5, 5, 5, 3, 10000}};
        for (int[] row : no) {
            walk.is("due", x, x.due(row[0], row[1], row[2], 2, row[3], row[4]), -1, 2);
        }
        walk.says("`int bestDay(int from, int till, int x, int y, int c, int units, int price)`: The DAY, from one "
                + "to another one no less, on which that is least, the first such.");
        // At 15 15 food comes to 500 of 10,000 up to DAY 4, to 100 from DAY 5 on, to nothing on DAYS 20 to 25.
        int[][] best = {{0, 4, 0}, {0, 5, 5}, {0, 19, 5}, {0, 20, 20}, {0, 999, 20}, {22, 999, 22}, {26, 999, 26},
            {3, 3, 3}};
        for (int[] row : best) {
            walk.is("from " + row[0] + " till " + row[1], x, x.bestDay(row[0], row[1], 15, 15, 1, 9, 50), row[2], 0);
        }
        walk.is("too dear for the holiday", x, x.bestDay(0, 999, 15, 15, 1, 9, 51), 5, 0);
        walk.says("NONE: 1 (no such CLASS); 2.");
        walk.is("no such CLASS", x, x.bestDay(5, 4, 5, 5, 4, 3, 100), -1, 1);
        walk.is("till one that is less", x, x.bestDay(5, 4, 5, 5, 1, 3, 100), -1, 2);
        walk.is("from no DAY", x, x.bestDay(-1, 4, 5, 5, 1, 3, 100), -1, 2);
        walk.is("till no DAY", x, x.bestDay(5, 1000, 5, 5, 1, 3, 100), -1, 2);
        for (int[] row : no) {
            walk.is("bestDay", x, x.bestDay(row[0], row[0], row[1], row[2], 2, row[3], row[4]), -1, 2);
        }
    }

    private void line() {
        walk.says("`int line(int l, int what)`: Of a LINE 0 DAY, 1 X, 2 Y, 3 CLASS, 4 units sold, 5 price, 6 units "
                + "left, 7 PARTS, 8 DUE of the units left, 9 1 if it is FILED.");
        SalePlaces x = booked();
        int[][] due = {{3, 1, 1, 0, 3, 100, 2, 2, 30, 1}, {6, 1, 2, 1, 4, 200, 4, 2, 80, 0}};
        for (int l = 0; l < 2; l++) {
            for (int what = 0; what < 10; what++) {
                walk.is("line(" + l + ", " + what + ")", x, x.line(l, what), due[l][what], 0);
            }
        }
        walk.says("NONE: 1.");
        walk.is("line(2, 0)", x, x.line(2, 0), -1, 1);
        walk.is("line(-1, 0)", x, x.line(-1, 0), -1, 1);
        walk.is("line(0, 10)", x, x.line(0, 10), -1, 1);
        walk.is("line(0, -1)", x, x.line(0, -1), -1, 1);
    }

    private void part() {
        walk.says("`int part(int l, int i, int what)`: Of the i-th PART 0 PLACE, 1 RATE, 2 CAP (-2 none), 3 1 if it "
                + "is FREE, 4 BASE, 5 TAX, both of the units left.");
        SalePlaces x = Check.desk(Desks.CITY);
        x.sale(20, 5, 5, 2, 9, 50);
        x.refund(0, 2);
        int[][] due = {{0, 100, -2, 1, 0, 0}, {1, 200, 40, 0, 280, 6}, {4, 75, -2, 0, 350, 3}};
        for (int i = 0; i < 3; i++) {
            for (int what = 0; what < 6; what++) {
                walk.is("part(0, " + i + ", " + what + ")", x, x.part(0, i, what), due[i][what], 0);
            }
        }
        walk.says("NONE: 1 (i, what, too).");
        int[][] no = {{1, 0, 0}, {-1, 0, 0}, {0, 3, 0}, {0, -1, 0}, {0, 0, 6}, {0, 0, -1}};
        for (int[] row : no) {
            walk.is("part(" + row[0] + ", " + row[1] + ", " + row[2] + ")", x, x.part(row[0], row[1], row[2]), -1, 1);
        }
    }

    private void ledger() {
        walk.says("`int entries()`: How many ENTRIES THE LEDGER has.");
        SalePlaces x = booked();
        walk.is("of p and q, for c and d", x, x.entries(), 4, 0);
        walk.says("NONE: 1 (no DESK).");
        SalePlaces none = new SalePlaces();
        walk.is("no DESK", none, none.entries(), -1, 1);
        walk.says("`int entry(int i, int what)`: Of the i-th 0 PLACE, 1 CLASS, 2 TAXES.");
        int[][] due = {{0, 0, 20}, {1, 0, 10}, {0, 1, 80}, {1, 1, 0}};
        for (int i = 0; i < 4; i++) {
            for (int what = 0; what < 3; what++) {
                walk.is("entry(" + i + ", " + what + ")", x, x.entry(i, what), due[i][what], 0);
            }
        }
        walk.says("NONE: 1.");
        int[][] no = {{4, 0}, {-1, 0}, {0, 3}, {0, -1}};
        for (int[] row : no) {
            walk.is("entry(" + row[0] + ", " + row[1] + ")", x, x.entry(row[0], row[1]), -1, 1);
        }
        walk.says("`int taxes(int p, int c)`: TAXES of a PLACE (-1: of all) for a CLASS (-1: all).");
        int[][] taxes = {{0, 0, 20}, {1, 0, 10}, {0, 1, 80}, {1, 1, 0}, {-1, 0, 30}, {-1, 1, 80}, {0, -1, 100},
            {1, -1, 10},
            {-1, -1, 110}};
        for (int[] row : taxes) {
            walk.is("taxes(" + row[0] + ", " + row[1] + ")", x, x.taxes(row[0], row[1]), row[2], 0);
        }
        walk.says("NONE: 1.");
        int[][] neither = {{2, -1}, {-2, -1}, {-1, 2}, {-1, -2}};
        for (int[] row : neither) {
            walk.is("taxes(" + row[0] + ", " + row[1] + ")", x, x.taxes(row[0], row[1]), -1, 1);
        }
    }

    private void filings() {
        walk.says("`int filings()`: How many FILINGS.");
        SalePlaces x = booked();
        x.file(5);
        walk.is("two", x, x.filings(), 2, 0);
        walk.says("NONE: 1 (no DESK).");
        SalePlaces none = new SalePlaces();
        walk.is("no DESK", none, none.filings(), -1, 1);
        walk.says("`int filing(int i, int what)`: Of the i-th 0 its DAY, 1 how many LINES it FILED.");
        walk.is("DAY of the first", x, x.filing(0, 0), 4, 0);
        walk.is("LINES of the first", x, x.filing(0, 1), 1, 0);
        walk.is("DAY of the second", x, x.filing(1, 0), 5, 0);
        walk.is("LINES of the second", x, x.filing(1, 1), 0, 0);
        walk.says("NONE: 1 (what, too).");
        int[][] no = {{2, 0}, {-1, 0}, {0, 2}, {0, -1}};
        for (int[] row : no) {
            walk.is("filing(" + row[0] + ", " + row[1] + ")", x, x.filing(row[0], row[1]), -1, 1);
        }
        walk.says("`int pays(int i, int p)`: What the i-th pays a PLACE (-1: all together; may be below 0).");
        int[][] due = {{0, 0, 30}, {0, 1, 15}, {0, -1, 45}, {1, 0, -10}, {1, 1, -5}, {1, -1, -15}};
        for (int[] row : due) {
            walk.is("pays(" + row[0] + ", " + row[1] + ")", x, x.pays(row[0], row[1]), row[2], 0);
        }
        walk.says("Integer.MIN_VALUE: 1.");
        int[][] neither = {{2, 0}, {-1, 0}, {0, 2}, {0, -2}};
        for (int[] row : neither) {
            walk.is("pays(" + row[0] + ", " + row[1] + ")", x, x.pays(row[0], row[1]), FAR, 1);
        }
    }

    private void pending() {
        walk.says("`int pending(int day, int p)`: What a FILING up to a DAY would pay a PLACE (-1: all together).");
        SalePlaces x = booked();
        int[][] due = {{5, 0, -10}, {5, 1, -5}, {5, -1, -15}, {6, 0, 70}, {6, 1, -5}, {6, -1, 65}, {999, -1, 65}};
        for (int[] row : due) {
            walk.is("pending(" + row[0] + ", " + row[1] + ")", x, x.pending(row[0], row[1]), row[2], 0);
        }
        walk.is("nothing is FILED by it", x.filings(), 1);
        walk.says("Integer.MIN_VALUE: 1; 2 (not behind the latest FILING's).");
        walk.is("no such PLACE", x, x.pending(4, 2), FAR, 1);
        walk.is("PLACE -2", x, x.pending(4, -2), FAR, 1);
        walk.is("on its DAY", x, x.pending(4, 0), FAR, 2);
        walk.is("ahead of it", x, x.pending(0, 0), FAR, 2);
        walk.is("no DAY", x, x.pending(1000, 0), FAR, 2);
        x = Check.desk(Desks.PLAIN);
        walk.is("on the first DAY, without one", x, x.pending(0, 0), 0, 0);
    }

    private void wrongAndOwed() {
        walk.says("`int wrong()`: How many LINES are WRONG.");
        SalePlaces x = booked();
        walk.is("none", x, x.wrong(), 0, 0);
        x.turn(0, 0, 3, 2000);
        x.turn(0, 1, 6, 500);
        walk.is("both", x, x.wrong(), 2, 0);
        undo(x);
        walk.is("one", x, x.wrong(), 1, 0);
        walk.says("NONE: 1 (no DESK).");
        SalePlaces none = new SalePlaces();
        walk.is("no DESK", none, none.wrong(), -1, 1);
        walk.says("`int owed(int l)`: By how much DUE of a LINE's units left would be more, were it booked now.");
        x.turn(0, 1, 6, 500);
        walk.is("more", x, x.owed(0), 20, 0);
        walk.is("less", x, x.owed(1), -40, 0);
        walk.says("Integer.MIN_VALUE: 1.");
        walk.is("no such LINE", x, x.owed(2), FAR, 1);
        walk.is("LINE -1", x, x.owed(-1), FAR, 1);
    }

    private void file() {
        walk.says("`int file(int day)`: A FILING up to a DAY: what it pays in all (may be below 0).");
        SalePlaces x = booked();
        walk.is("below 0", x, x.file(5), -15, 0);
        walk.is("above 0", x, x.file(6), 80, 0);
        walk.is("FILED", x.line(1, 9), 1);
        walk.says("Integer.MIN_VALUE: 1 (no DESK); 2 (likewise); 3.");
        SalePlaces none = new SalePlaces();
        walk.is("no DESK", none, none.file(1000), FAR, 1);
        walk.is("on the latest's DAY", x, x.file(6), FAR, 2);
        walk.is("no DAY", x, x.file(1000), FAR, 2);
        for (int k = 3; k < 12; k++) {
            walk.is("filing " + k, x, x.file(10 + k), 0, 0);
        }
        walk.is("2 ahead of 3", x, x.file(21), FAR, 2);
        walk.is("no room", x, x.file(22), FAR, 3);
    }

    private void sale() {
        walk.says("`int sale(int day, int x, int y, int c, int units, int price)`: A SALE is booked: its LINE.");
        SalePlaces x = booked();
        walk.is("the third", x, x.sale(5, 4, 4, 0, 99, 9999), 2, 0);
        walk.is("three", x.about(8), 3);
        walk.says("NONE: 1 (no such CLASS); 2; 5 (of a DAY that is FILED); 3.");
        walk.is("no such CLASS", x, x.sale(4, 5, 5, 2, 0, 0), -1, 1);
        int[][] no = {{1000, 1, 1, 3, 100}, {-1, 1, 1, 3, 100}, {4, 5, 1, 3, 100}, {4, 1, 5, 3, 100}, {4, 1, 1, 0, 100},
            {4, 1, 1, 100, 100}, {4, 1, 1, 3, 0}, {4, 1, 1, 3, 10000}};
        for (int[] row : no) {
            walk.is("a number", x, x.sale(row[0], row[1], row[2], 0, row[3], row[4]), -1, 2);
        }
        walk.is("of a DAY that is FILED", x, x.sale(4, 1, 1, 0, 3, 100), -1, 5);
        for (int l = 3; l < 40; l++) {
            walk.is("LINE " + l, x, x.sale(5, 1, 1, 0, 1, 1), l, 0);
        }
        walk.is("FILED ahead of no room", x, x.sale(4, 1, 1, 0, 3, 100), -1, 5);
        walk.is("no room", x, x.sale(5, 1, 1, 0, 3, 100), -1, 3);
        walk.is("forty", x.about(8), 40);
    }

    private void refund() {
        walk.says("`int refund(int l, int units)`: So many units of a LINE (1 .. those left) are REFUNDED: by how "
                + "much its DUE is less.");
        SalePlaces x = booked();
        walk.is("one of two", x, x.refund(0, 1), 15, 0);
        walk.is("one is left", x.line(0, 6), 1);
        walk.is("all of four", x, x.refund(1, 4), 80, 0);
        walk.is("none is left", x.line(1, 6), 0);
        walk.says("NONE: 1; 2.");
        walk.is("no such LINE", x, x.refund(2, 0), -1, 1);
        walk.is("none", x, x.refund(0, 0), -1, 2);
        walk.is("more than are left", x, x.refund(0, 2), -1, 2);
        walk.is("of none left", x, x.refund(1, 1), -1, 2);
        walk.is("one is left still", x.line(0, 6), 1);
    }

    private void move() {
        walk.says("`int move(int p, int day, int dx, int dy)`: A new bound of a PLACE from a DAY on, that of the "
                + "latest DAY moved east by dx, south by dy (-40 .. 40; Y more is south): how many bounds it has.");
        String text = "desk size 40 layers 1;class c;place p layer 0;place q layer 0;place r layer 0;"
                + "bound p 5 0 0 0 0 0 0;bound q 0 1 1 2 2 3 1;bound q 5 none";
        SalePlaces x = Check.desk(text);
        walk.is("the most east, the least south", x, x.move(0, 6, 40, 0), 2, 0);
        walk.is("the most south, the most west", x, x.move(0, 8, -40, 40), 3, 0);
        int[][] due = {{5, 0, 0}, {6, 40, 0}, {7, 40, 0}, {8, 0, 40}, {999, 0, 40}};
        for (int[] row : due) {
            for (int i = 0; i < 3; i++) {
                walk.is("X on " + row[0], x.corner(0, row[0], i, 0), row[1]);
                walk.is("Y on " + row[0], x.corner(0, row[0], i, 1), row[2]);
            }
        }
        walk.says("NONE: 1; 2 (the DAY isn't behind that of the latest; dx, dy; some CORNER would leave 0 .. SIZE);");
        walk.is("no such PLACE", x, x.move(3, 8, 0, 0), -1, 1);
        int[][] no = {{8, 0, 0}, {7, 0, 0}, {-1, 0, 0}, {1000, 0, 0}, {9, 41, 0}, {9, -41, 0}, {9, 0, -41}, {9, 0, 41},
            {9, -1, 0}, {9, 0, 1}};
        for (int[] row : no) {
            walk.is("on " + row[0] + " by " + row[1] + " " + row[2], x, x.move(0, row[0], row[1], row[2]), -1, 2);
        }
        walk.says("5 (it has no bound, or none of area the latest);");
        walk.is("no bound", x, x.move(2, 9, 0, 0), -1, 5);
        walk.is("none of area the latest", x, x.move(1, 9, 0, 0), -1, 5);
        walk.is("2 ahead of 5", x, x.move(1, 5, 0, 0), -1, 2);
        walk.says("3 (16 of all).");
        for (int day = 9; day < 20; day++) {
            walk.is("on " + day, x, x.move(0, day, 0, 0), day - 5, 0);
        }
        walk.is("a seventeenth", x, x.move(0, 20, 0, 0), -1, 3);
        walk.is("5 ahead of 3", x, x.move(1, 20, 0, 0), -1, 5);
        walk.is("sixteen", x.about(4), 16);
    }

    private void turn() {
        walk.says("`int turn(int p, int c, int day, int rate)`: A new RATE of a PLACE for a CLASS from a DAY on (0 "
                + ".. 2,500): how many rates there are.");
        SalePlaces x = Check.desk(Desks.CITY);
        walk.is("the most", x, x.turn(0, 1, 6, 2500), 7, 0);
        walk.is("the least", x, x.turn(0, 1, 8, 0), 8, 0);
        walk.is("ahead of it", x.rate(0, 1, 5), 100);
        walk.is("from its DAY on", x.rate(0, 1, 6), 2500);
        walk.is("wine, too", x.rate(0, 2, 7), 2500);
        walk.is("from the next one's on", x.rate(0, 1, 8), 0);
        walk.is("not for all", x.rate(0, 0, 8), 500);
        walk.is("not of ci", x.rate(1, 1, 8), 200);
        walk.says("NONE: 1; 2 (the DAY isn't behind that of the latest for the same two; the RATE);");
        walk.is("no such PLACE", x, x.turn(6, 1, 8, 0), -1, 1);
        walk.is("no such CLASS", x, x.turn(0, 4, 8, 0), -1, 1);
        walk.is("on its DAY", x, x.turn(0, 1, 8, 0), -1, 2);
        walk.is("no DAY", x, x.turn(0, 1, 1000, 0), -1, 2);
        walk.is("no DAY of two without any", x, x.turn(5, 1, -1, 0), -1, 2);
        walk.is("2,501", x, x.turn(0, 1, 9, 2501), -1, 2);
        walk.is("-1", x, x.turn(0, 1, 9, -1), -1, 2);
        walk.says("3 (20).");
        for (int k = 9; k <= 20; k++) {
            walk.is("rate " + k, x, x.turn(5, 3, k, 1), k, 0);
        }
        walk.is("2 ahead of 3", x, x.turn(5, 3, 20, 1), -1, 2);
        walk.is("no room", x, x.turn(5, 3, 21, 1), -1, 3);
        walk.is("twenty", x.about(5), 20);
    }

    private void undo() {
        walk.says("`boolean undo()`: UNDO: true; false: 1 (there is nothing).");
        SalePlaces x = booked();
        int[] lines = {1, 1, 1, 0};
        int[] left = {2, 3, 3, 0};
        int[] filings = {1, 1, 0, 0};
        for (int k = 0; k < 4; k++) {
            walk.is("undo " + k, x, undo(x), 1, 0);
            walk.is("LINES", x.about(8), lines[k]);
            walk.is("units left", x.size(2), left[k]);
            walk.is("FILINGS", x.filings(), filings[k]);
        }
        walk.is("nothing", x, undo(x), 0, 1);
        x.move(1, 5, 2, 0);
        x.turn(1, 0, 5, 9);
        walk.is("a RATE", x, undo(x), 1, 0);
        walk.is("as it was", x.rate(1, 0, 5), 500);
        walk.is("moved still", x.corner(1, 5, 0, 0), 2);
        walk.is("a BOUND", x, undo(x), 1, 0);
        walk.is("as it was", x.corner(1, 5, 0, 0), 0);
    }

    private static int idle(SalePlaces x, int i) {
        try {
            return x.idle(i);
        } catch (NoSuchElementException e) {
            return FAR;
        }
    }

    private void idle() {
        walk.says("`int idle(int i) throws NoSuchElementException`: The i-th PLACE, by numbers, that is in no PART "
                + "of any LINE.");
        SalePlaces x = Check.desk(Desks.CITY);
        for (int i = 0; i < 6; i++) {
            walk.is("of six, " + i, idle(x, i), i);
        }
        x.sale(5, 12, 5, 0, 1, 1);
        int[] left = {1, 3, 5};
        for (int i = 0; i < 3; i++) {
            walk.is("without st, cj, me, " + i, idle(x, i), left[i]);
        }
        walk.says("NoSuchElementException if there is none such.");
        walk.is("a fourth", idle(x, 3), FAR);
        walk.is("-1", idle(x, -1), FAR);
        walk.is("no DESK", idle(new SalePlaces(), 0), FAR);
    }

    private void sizeAndTrouble() {
        walk.says("`int size(int what)`: 0 bytes of THE TAPE, 1 what can be undone, 2 units left of all LINES.");
        SalePlaces x = booked();
        x.feed(0, 0, 0, 0, 0);
        walk.is("bytes", x.size(0), 20);
        walk.is("ACTS", x.size(1), 4);
        walk.is("units", x.size(2), 2 + 4);
        walk.says("NONE for others;");
        walk.is("size(3)", x.size(3), -1);
        walk.is("size(-1)", x.size(-1), -1);
        walk.says("0 for what there isn't.");
        x = new SalePlaces();
        for (int what = 0; what < 3; what++) {
            walk.is("size(" + what + ")", x.size(what), 0);
        }
        walk.says("`int trouble()`: TROUBLE.");
        walk.is("none yet", x.trouble(), 0);
        x.wrong();
        walk.is("1", x.trouble(), 1);
        walk.is("1 still", x.trouble(), 1);
        x.desk(1);
        walk.is("2", x.trouble(), 2);
        x.desk(0);
        walk.is("4", x.trouble(), 4);
    }
}
