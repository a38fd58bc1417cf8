/**
 * Term II on BOUNDS, POINTS, SETTLED and STACK, and promises 6 to 21, at their edges: each group of checks
 * stands for one sentence of the document, which is quoted above it.
 */
public final class PointEdgesTest {
    private static final Check CHECK = new Check();
    private static final String LARGE = "desk size 40 layers 4;class c;place a layer 0;place b layer 1;"
            + "place d layer 2;place e layer 3;";
    private static final String OVER = " 0 0 40 0 40 40 0 40";

    public static void main(String[] args) {
        about();
        above();
        place();
        boundOfADay();
        corners();
        corner();
        area();
        inside();
        border();
        crossings();
        onEdge();
        besideEdges();
        nextMove();
        settled();
        stackOfAll();
        onlyOnes();
        stackAt();
        nextStack();
        overlap();
        points();
        stacked();
        pointsOfASize();
        CHECK.end();
    }

    // "0 SIZE, 1 LAYERS, 2 CLASSES, 3 PLACES, 4 bounds, 5 rates, 6 holidays, 7 caps, 8 LINES of THE BOOK."
    private static void about() {
        SalePlaces x = Check.desk("desk size 2 layers 1;class c;place p layer 0");
        int[] least = {2, 1, 1, 1, 0, 0, 0, 0, 0};
        for (int what = 0; what < least.length; what++) {
            CHECK.told("the least, " + what, x, x.about(what), least[what], 0);
        }
        x = fullBook();
        int[] most = {40, 4, 1, 4, 16, 20, 0, 0, 40};
        for (int what = 0; what < most.length; what++) {
            CHECK.told("moved, turned and booked up, " + what, x, x.about(what), most[what], 0);
        }
        CHECK.same("undo", x.undo() ? 1 : 0, 1);
        CHECK.told("a LINE less", x, x.about(8), 39, 0);
    }

    private static SalePlaces fullBook() {
        SalePlaces x = Check.desk(LARGE + "bound a 0" + OVER + ";bound b 0" + OVER);
        for (int day = 1; day <= 14; day++) {
            x.move(0, day, 0, 0);
        }
        for (int day = 0; day < 20; day++) {
            x.turn(0, 0, day, 1);
        }
        for (int l = 0; l < 40; l++) {
            x.sale(999, 39, 39, 0, 99, 9999);
        }
        return x;
    }

    // "The CLASS that a CLASS is of; -2."
    private static void above() {
        SalePlaces x = Check.desk("desk size 2 layers 1;class a;class b of a;class c of a;class d;class e of d;"
                + "class f of e;place p layer 0");
        int[] due = {-2, 0, 0, -2, 3, 4};
        for (int c = 0; c < due.length; c++) {
            CHECK.told("above " + c, x, x.above(c), due[c], 0);
        }
        CHECK.told("a seventh", x, x.above(6), -1, 1);
    }

    // "Of a PLACE 0 its LAYER, 1 1 if it is ONLY, 2 how many bounds it has."
    private static void place() {
        SalePlaces x = Check.desk(LARGE + "bound e 0 0 0 1 0 1 1");
        for (int p = 0; p < 4; p++) {
            CHECK.told("layer", x, x.place(p, 0), p, 0);
            CHECK.told("not only", x, x.place(p, 1), 0, 0);
            CHECK.told("bounds", x, x.place(p, 2), p == 3 ? 1 : 0, 0);
        }
        for (int day = 1; day < 16; day++) {
            CHECK.told("moved on " + day, x, x.move(3, day, 1, 1), day + 1, 0);
        }
        CHECK.told("all sixteen are of one", x, x.place(3, 2), 16, 0);
        CHECK.told("a seventeenth", x, x.move(3, 16, 1, 1), -1, 3);
        CHECK.told("sixteen still", x, x.place(3, 2), 16, 0);
        CHECK.same("undo", x.undo() ? 1 : 0, 1);
        CHECK.told("fifteen", x, x.place(3, 2), 15, 0);
    }

    // "BOUND of a PLACE on a DAY: that of the latest DAY no later; without one it has no area."
    private static void boundOfADay() {
        SalePlaces x = Check.desk("desk size 9 layers 1;class c;place p layer 0;place q layer 0;bound p 5 0 0 9 0 9 9;"
                + "bound p 6 0 0 9 0 9 9 0 9;bound p 999 0 0 9 0 9 9 0 9 0 5");
        int[][] due = {{0, 0}, {4, 0}, {5, 3}, {6, 4}, {7, 4}, {998, 4}, {999, 5}};
        for (int[] row : due) {
            CHECK.told("corners on " + row[0], x, x.corners(0, row[0]), row[1], 0);
            CHECK.told("without a bound on " + row[0], x, x.corners(1, row[0]), 0, 0);
            CHECK.told("IN on " + row[0], x, x.inside(0, row[0], 5, 1), row[1] == 0 ? 0 : 1, 0);
            CHECK.told("area on " + row[0], x, x.area(0, row[0]), row[1] == 0 ? 0 : row[1] == 3 ? 81 : 162, 0);
            CHECK.told("on an edge on " + row[0], x, x.onEdge(0, row[0], 9, 5), row[1] == 0 ? 0 : 1, 0);
            CHECK.told("points on " + row[0], x, x.points(0, row[0]), row[1] == 0 ? 0 : row[1] == 3 ? 45 : 81, 0);
        }
    }

    // "How many CORNERS a PLACE's BOUND has on a DAY (0: no area)."
    private static void corners() {
        SalePlaces x = Check.desk("desk size 9 layers 1;class c;place p layer 0;bound p 0 1 1 1 1 1 1;"
                + "bound p 1 1 1 1 1 1 1 1 1 1 1 1 1;bound p 2 none");
        CHECK.told("three, also of one POINT", x, x.corners(0, 0), 3, 0);
        CHECK.told("six", x, x.corners(0, 1), 6, 0);
        CHECK.told("none", x, x.corners(0, 2), 0, 0);
        CHECK.told("none since", x, x.corners(0, 999), 0, 0);
    }

    // "The i-th of them, 0 X, 1 Y. NONE: 1 (no such PLACE, what); 2; 1 (i)."
    private static void corner() {
        SalePlaces x = Check.desk("desk size 40 layers 1;class c;place p layer 0;"
                + "bound p 1 0 40 1 39 2 38 3 37 4 36 40 0;bound p 2 none;bound p 3 7 8 9 10 11 12");
        int[] xs = {0, 1, 2, 3, 4, 40};
        int[] ys = {40, 39, 38, 37, 36, 0};
        for (int i = 0; i < 6; i++) {
            CHECK.told("x of " + i, x, x.corner(0, 1, i, 0), xs[i], 0);
            CHECK.told("y of " + i, x, x.corner(0, 1, i, 1), ys[i], 0);
        }
        CHECK.told("a seventh", x, x.corner(0, 1, 6, 0), -1, 1);
        CHECK.told("of no bound yet", x, x.corner(0, 0, 0, 0), -1, 1);
        CHECK.told("of none", x, x.corner(0, 2, 0, 0), -1, 1);
        CHECK.told("of none, the last", x, x.corner(0, 2, -1, 1), -1, 1);
        CHECK.told("the third of three", x, x.corner(0, 999, 2, 1), 12, 0);
        CHECK.told("a fourth, which the bound ahead had", x, x.corner(0, 999, 3, 1), -1, 1);
        CHECK.told("the DAY ahead of i", x, x.corner(0, 1000, 6, 0), -1, 2);
        CHECK.told("what ahead of the DAY", x, x.corner(0, 1000, 6, 2), -1, 1);
    }

    // "Twice the area, CORNER by CORNER x of the first times y of the second less x of the second times y of
    // the first, all together (may be below 0). Integer.MIN_VALUE: 1; 2."
    private static void area() {
        SalePlaces x = Check.desk("desk size 40 layers 1;class c;place p layer 0;bound p 0" + OVER
                + ";bound p 1 0 0 0 40 40 40 40 0;bound p 2 40 40 0 0 40 0;bound p 3 0 0 40 40 20 20;"
                + "bound p 4 0 0 40 0 0 1;bound p 5 0 1 40 0 0 0;bound p 6 0 0 40 40 40 0 0 40;"
                + "bound p 7 0 0 40 0 40 40 0 40 20 20 10 20;bound p 8 none");
        int[] due = {3200, -3200, 1600, 0, 40, -40, 0, 2600, 0};
        for (int day = 0; day < due.length; day++) {
            CHECK.told("area on " + day, x, x.area(0, day), due[day], 0);
        }
        CHECK.told("on the last day", x, x.area(0, 999), 0, 0);
    }

    // "1 if a POINT is IN it, 0."
    private static void inside() {
        SalePlaces x = Check.desk(LARGE + "bound a 0" + OVER + ";bound b 0 40 40 0 40 0 0 40 0");
        for (int p = 0; p < 2; p++) {
            CHECK.told("the first POINT", x, x.inside(p, 0, 0, 0), 1, 0);
            CHECK.told("the last but one", x, x.inside(p, 0, 39, 39), 1, 0);
            CHECK.told("the last X", x, x.inside(p, 0, 40, 0), 0, 0);
            CHECK.told("the last Y", x, x.inside(p, 0, 0, 40), 0, 0);
            CHECK.told("both", x, x.inside(p, 0, 40, 40), 0, 0);
            CHECK.told("of the last X and Y but one", x, x.inside(p, 0, 39, 40), 0, 0);
        }
        x = Check.desk("desk size 9 layers 1;class c;place p layer 0;bound p 0 3 3 3 3 3 3;bound p 1 1 1 5 5 9 9;"
                + "bound p 2 1 4 5 4 9 4;bound p 3 4 1 4 5 4 9");
        for (int day = 0; day < 4; day++) {
            CHECK.told("no POINT is IN what has no breadth, " + day, x, x.points(0, day), 0, 0);
        }
    }

    // "(So each POINT on a border is settled alike, and is IN just one of two areas that lie at either side
    // of it.)"
    private static void border() {
        // Six areas around 4 4 that together are the square from 0 0 to 8 8.
        String[] parts = {"4 4 0 0 8 0", "4 4 8 0 8 4", "4 4 8 4 8 8", "4 4 8 8 0 8", "4 4 0 8 0 3", "0 0 4 4 0 3"};
        StringBuilder text = new StringBuilder("desk size 9 layers 1;class c");
        for (int p = 0; p < 6; p++) {
            text.append(";place ").append((char) ('p' + p)).append(" layer 0;bound ").append((char) ('p' + p))
                    .append(" 0 ").append(parts[p]);
        }
        for (int y = 0; y < 9; y++) {
            SalePlaces x = Check.desk(text.toString());
            for (int at = 0; at < 9; at++) {
                int found = 0;
                for (int p = 0; p < 6; p++) {
                    found += x.inside(p, 0, at, y);
                }
                CHECK.same("areas that have " + at + " " + y, found, at < 8 && y < 8 ? 1 : 0);
            }
        }
        // A whole neighbour at the east and south has what isn't IN.
        SalePlaces x = Check.desk("desk size 8 layers 1;class c;place p layer 0;place q layer 0;place r layer 0;"
                + "bound p 0 0 0 4 0 4 4 0 4;bound q 0 4 0 8 0 8 4 4 4;bound r 0 0 4 8 4 8 8 0 8");
        CHECK.told("the east border", x, x.settled(0, 0, 4, 2), 1, 0);
        CHECK.told("the south border", x, x.settled(0, 0, 2, 4), 2, 0);
        CHECK.told("where all three meet", x, x.settled(0, 0, 4, 4), 2, 0);
        CHECK.told("the north end of the east border", x, x.settled(0, 0, 4, 0), 1, 0);
        CHECK.told("the west end of the south border", x, x.settled(0, 0, 0, 4), 2, 0);
        CHECK.told("one POINT ahead of it", x, x.settled(0, 0, 3, 3), 0, 0);
    }

    // "of an EDGE one end's Y is above the POINT's, that of the other isn't, and at the POINT's Y (exactly) it
    // is at an X above the POINT's."
    private static void crossings() {
        // A slope from 40 0 to 39 40: in all rows between it is at an X above 39, and below 40.
        SalePlaces x = Check.desk("desk size 40 layers 1;class c;place p layer 0;bound p 0 0 0 40 0 39 40 0 40;"
                + "bound p 1 0 40 39 40 40 0 0 0;bound p 2 0 0 1 40 0 40;bound p 3 0 0 40 1 40 0");
        for (int day = 0; day < 2; day++) {
            CHECK.told("39 at the top", x, x.inside(0, day, 39, 0), 1, 0);
            CHECK.told("39 one above the low end", x, x.inside(0, day, 39, 39), 1, 0);
            CHECK.told("39 at the low end", x, x.inside(0, day, 39, 40), 0, 0);
            CHECK.told("40 at the top", x, x.inside(0, day, 40, 0), 0, 0);
        }
        CHECK.told("a sliver: its tip", x, x.inside(0, 2, 0, 0), 0, 0);
        CHECK.told("a sliver: below its tip", x, x.inside(0, 2, 0, 1), 1, 0);
        CHECK.told("a sliver: its last row", x, x.inside(0, 2, 0, 39), 1, 0);
        CHECK.told("a sliver: its low end", x, x.inside(0, 2, 0, 40), 0, 0);
        CHECK.told("a flat sliver: its tip", x, x.inside(0, 3, 0, 0), 1, 0);
        CHECK.told("a flat sliver: all of its row", x, x.points(0, 3), 40, 0);
        // A CORNER whose EDGES both come from above is crossed by none, or by both.
        x = Check.desk("desk size 9 layers 1;class c;place p layer 0;bound p 0 2 1 8 1 8 7 5 4 2 7;"
                + "bound p 1 2 7 5 4 8 7");
        CHECK.told("west of a notch, at its Y", x, x.inside(0, 0, 3, 4), 1, 0);
        CHECK.told("at the notch", x, x.inside(0, 0, 5, 4), 1, 0);
        CHECK.told("below the notch", x, x.inside(0, 0, 5, 5), 0, 0);
        CHECK.told("west of a top, at its Y", x, x.inside(0, 1, 3, 4), 0, 0);
        CHECK.told("at the top", x, x.inside(0, 1, 5, 4), 0, 0);
        CHECK.told("below the top", x, x.inside(0, 1, 5, 5), 1, 0);
    }

    // "1 if a POINT lies on one of its EDGES, 0."
    private static void onEdge() {
        SalePlaces x = Check.desk("desk size 40 layers 1;class c;place p layer 0;bound p 0" + OVER
                + ";bound p 1 0 0 40 40 40 0;bound p 2 3 3 3 3 3 3;bound p 3 none;bound p 4 0 0 39 40 0 40");
        int[][] due = {{0, 0, 0, 1}, {0, 40, 40, 1}, {0, 40, 0, 1}, {0, 0, 40, 1}, {0, 20, 0, 1}, {0, 0, 20, 1},
            {0, 40, 20, 1}, {0, 20, 40, 1}, {0, 1, 1, 0}, {0, 39, 39, 0}, {1, 20, 20, 1}, {1, 20, 21, 0},
            {1, 21, 20, 0}, {1, 0, 1, 0}, {1, 1, 0, 1}, {2, 3, 3, 1}, {2, 3, 2, 0}, {2, 4, 3, 0}, {3, 3, 3, 0},
            {3, 0, 0, 0}, {4, 0, 0, 1}, {4, 39, 40, 1}, {4, 40, 40, 0}, {4, 20, 20, 0}, {4, 20, 21, 0}};
        for (int[] row : due) {
            CHECK.told("on " + row[0] + " at " + row[1] + " " + row[2], x, x.onEdge(0, row[0], row[1], row[2]), row[3],
                    0);
        }
    }

    // "lies on one of its EDGES": not on the line of one, ahead of it or behind it, whichever way it goes.
    private static void besideEdges() {
        String[] bounds = {"6 1 8 1 7 5", "8 1 6 1 7 5", "1 6 1 8 5 7", "1 8 1 6 5 7", "3 3 6 6 3 6", "6 6 3 3 3 6",
            "3 6 6 3 3 3", "6 3 3 6 3 3"};
        int[] on = {6, 7, 8};
        int[] off = {0, 1, 5, 9, 10};
        StringBuilder text = new StringBuilder("desk size 10 layers 1;class c;place p layer 0");
        for (int day = 0; day < bounds.length; day++) {
            text.append(";bound p ").append(day).append(' ').append(bounds[day]);
        }
        SalePlaces x = Check.desk(text.toString());
        for (int day = 0; day < 4; day++) {
            // The first two EDGES go along Y 1, the other two along X 1.
            boolean flat = day < 2;
            for (int at : on) {
                CHECK.told("on the EDGE of " + bounds[day], x, x.onEdge(0, day, flat ? at : 1, flat ? 1 : at), 1, 0);
            }
            for (int at : off) {
                CHECK.told("beside that of " + bounds[day], x, x.onEdge(0, day, flat ? at : 1, flat ? 1 : at), 0, 0);
            }
        }
        for (int day = 4; day < 8; day++) {
            // Slopes between 3 and 6, down to the east or up to the east.
            for (int at = 0; at < 10; at++) {
                int y = day < 6 ? at : 9 - at;
                int due = at >= 3 && at <= 6 ? 1 : 0;
                CHECK.told("at " + at + " " + y + " of " + bounds[day], x, x.onEdge(0, day, at, y), due, 0);
            }
        }
    }

    // "The next DAY behind one on which another bound of a PLACE begins; -2."
    private static void nextMove() {
        SalePlaces x = Check.desk("desk size 9 layers 1;class c;place p layer 0;place q layer 0;place r layer 0;"
                + "bound p 0 0 0 9 0 9 9;bound q 1 none;bound p 999 none");
        int[][] due = {{0, 0, 999}, {0, 998, 999}, {0, 999, -2}, {1, 0, 1}, {1, 1, -2}, {1, 999, -2}, {2, 0, -2},
            {2, 999, -2}};
        for (int[] row : due) {
            CHECK.told("of " + row[0] + " behind " + row[1], x, x.nextMove(row[0], row[1]), row[2], 0);
        }
    }

    // "SETTLED in a LAYER on a DAY: the first PLACE of that LAYER, by number, whose BOUND has the POINT IN."
    private static void settled() {
        StringBuilder text = new StringBuilder("desk size 4 layers 4;class c");
        for (int p = 0; p < 10; p++) {
            text.append(";place ").append((char) ('k' + p)).append(" layer ").append(p == 9 ? 3 : 0);
        }
        text.append(";bound t 0 0 0 4 0 4 4 0 4;bound s 5 0 0 4 0 4 4 0 4;bound k 9 0 0 1 0 1 1 0 1");
        SalePlaces x = Check.desk(text.toString());
        CHECK.told("nobody", x, x.settled(0, 4, 0, 0), -2, 0);
        CHECK.told("the ninth alone", x, x.settled(0, 5, 0, 0), 8, 0);
        CHECK.told("the first ahead of the ninth", x, x.settled(0, 9, 0, 0), 0, 0);
        CHECK.told("beside the first", x, x.settled(0, 9, 1, 0), 8, 0);
        CHECK.told("the tenth, of the last LAYER", x, x.settled(3, 0, 0, 0), 9, 0);
        CHECK.told("a LAYER without PLACES", x, x.settled(1, 0, 0, 0), -2, 0);
        CHECK.told("at the last POINT", x, x.settled(3, 0, 4, 4), -2, 0);
        CHECK.told("no such LAYER", x, x.settled(4, 0, 0, 0), -1, 1);
    }

    // "How many PLACES its STACK has."
    private static void stackOfAll() {
        SalePlaces x = Check.desk(LARGE + "bound a 1" + OVER + ";bound b 2" + OVER + ";bound d 3" + OVER
                + ";bound e 4" + OVER);
        for (int day = 0; day < 5; day++) {
            CHECK.told("how many on " + day, x, x.stack(day, 0, 39), day, 0);
            CHECK.told("at the last POINT", x, x.stack(day, 40, 40), 0, 0);
        }
        CHECK.told("on the last DAY", x, x.stack(999, 39, 0), 4, 0);
    }

    // "STACK: SETTLED PLACES by LAYERS rising, to the first that is ONLY (itself, too)."
    private static void onlyOnes() {
        for (int only = 0; only <= 4; only++) {
            // PLACES are told from the last LAYER to the first one, so that numbers fall as LAYERS rise.
            StringBuilder text = new StringBuilder("desk size 4 layers 4;class c");
            for (int layer = 3; layer >= 0; layer--) {
                char p = (char) ('p' + layer);
                text.append(";place ").append(p).append(" layer ").append(layer)
                        .append(layer == only || layer == 3 ? " only" : "");
                text.append(";bound ").append(p).append(" 0 0 0 4 0 4 4 0 4");
            }
            SalePlaces x = Check.desk(text.toString());
            int height = Math.min(4, only + 1);
            CHECK.told("to the ONLY one of LAYER " + only, x, x.stack(0, 1, 1), height, 0);
            for (int i = 0; i < height; i++) {
                CHECK.told("the one of LAYER " + i, x, x.stackAt(0, 1, 1, i), 3 - i, 0);
            }
            CHECK.told("none behind it", x, x.stackAt(0, 1, 1, height), -1, 1);
            CHECK.told("SETTLED behind it, too", x, x.settled(3, 0, 1, 1), 0, 0);
            CHECK.told("points behind it, too", x, x.points(0, 0), 16, 0);
            CHECK.told("nobody, where the ONLY one isn't", x, x.stack(0, 4, 4), 0, 0);
        }
        // An ONLY one that isn't SETTLED, as another one comes first by number, ends no STACK.
        SalePlaces x = Check.desk("desk size 4 layers 2;class c;place p layer 0;place q layer 0 only;place r layer 1;"
                + "bound p 0 0 0 2 0 2 4 0 4;bound q 0 0 0 4 0 4 4 0 4;bound r 0 0 0 4 0 4 4 0 4");
        CHECK.told("where p is SETTLED", x, x.stack(0, 1, 1), 2, 0);
        CHECK.told("where q is SETTLED", x, x.stack(0, 2, 1), 1, 0);
    }

    // "The i-th of them. NONE: 1 (no DESK); 2; 1 (i)."
    private static void stackAt() {
        SalePlaces x = Check.desk(LARGE + "bound b 0" + OVER + ";bound e 0" + OVER);
        CHECK.told("the first, of LAYER 1", x, x.stackAt(0, 0, 0, 0), 1, 0);
        CHECK.told("the second, of LAYER 3", x, x.stackAt(0, 0, 0, 1), 3, 0);
        CHECK.told("a third", x, x.stackAt(0, 0, 0, 2), -1, 1);
        CHECK.told("-1", x, x.stackAt(0, 0, 0, -1), -1, 1);
        CHECK.told("the first of an empty one", x, x.stackAt(0, 40, 0, 0), -1, 1);
        CHECK.told("the POINT ahead of i", x, x.stackAt(0, 41, 0, 2), -1, 2);
    }

    // "The first DAY behind one on which its STACK is another one; -2."
    private static void nextStack() {
        SalePlaces x = Check.desk("desk size 4 layers 2;class c;place p layer 0;place q layer 1;place r layer 0;"
                + "bound p 0 0 0 4 0 4 4 0 4;bound p 3 1 1 4 0 4 4 0 4;bound r 5 0 0 4 0 4 4 0 4;"
                + "bound q 999 0 0 4 0 4 4");
        CHECK.told("gone", x, x.nextStack(0, 0, 0), 3, 0);
        CHECK.told("on the DAY ahead", x, x.nextStack(2, 0, 0), 3, 0);
        CHECK.told("another one comes", x, x.nextStack(3, 0, 0), 5, 0);
        CHECK.told("the last DAY", x, x.nextStack(5, 0, 0), 999, 0);
        CHECK.told("the DAY ahead of the last", x, x.nextStack(998, 0, 0), 999, 0);
        CHECK.told("behind the last", x, x.nextStack(999, 0, 0), -2, 0);
        CHECK.told("SETTLED as before", x, x.nextStack(0, 3, 1), 999, 0);
        CHECK.told("nobody ever", x, x.nextStack(0, 4, 4), -2, 0);
        // Gone and come back between: the first DAY on which it is another one than on the DAY told.
        x = Check.desk("desk size 4 layers 1;class c;place p layer 0;bound p 1 0 0 4 0 4 4 0 4;bound p 2 none;"
                + "bound p 3 0 0 4 0 4 4 0 4");
        CHECK.told("behind 0", x, x.nextStack(0, 0, 0), 1, 0);
        CHECK.told("behind 1", x, x.nextStack(1, 0, 0), 2, 0);
        CHECK.told("behind 2", x, x.nextStack(2, 0, 0), 3, 0);
        CHECK.told("behind 3", x, x.nextStack(3, 0, 0), -2, 0);
        // All sixteen bounds, the last of which alone makes another one.
        StringBuilder text = new StringBuilder("desk size 4 layers 1;class c;place p layer 0;place q layer 0");
        for (int day = 1; day < 16; day++) {
            text.append(";bound p ").append(day).append(" none");
        }
        x = Check.desk(text + ";bound q 16 0 0 4 0 4 4 0 4");
        CHECK.told("the sixteenth", x, x.nextStack(0, 0, 0), 16, 0);
        CHECK.told("none", x, x.nextStack(0, 4, 0), -2, 0);
    }

    // "How many POINTS are IN two PLACES of one LAYER both. NONE: 1 (unlike PLACES); 5 (of unlike LAYERS); 2."
    private static void overlap() {
        SalePlaces x = Check.desk("desk size 40 layers 2;class c;place p layer 0;place q layer 0;place r layer 1;"
                + "bound p 0" + OVER + ";bound q 1" + OVER + ";bound q 2 39 39 40 39 40 40 39 40;"
                + "bound q 3 0 0 1 0 1 1 0 1;bound q 4 40 40 40 40 40 40;bound q 5 none");
        int[] due = {0, 1600, 1, 1, 0, 0};
        for (int day = 0; day < due.length; day++) {
            CHECK.told("both on " + day, x, x.overlap(0, 1, day), due[day], 0);
            CHECK.told("the other way on " + day, x, x.overlap(1, 0, day), due[day], 0);
        }
        CHECK.told("one PLACE", x, x.overlap(0, 0, 0), -1, 1);
        CHECK.told("one PLACE, with a DAY out of bounds", x, x.overlap(2, 2, 1000), -1, 1);
        CHECK.told("no such PLACE, twice", x, x.overlap(3, 3, 0), -1, 1);
        CHECK.told("no such PLACE ahead of LAYERS", x, x.overlap(2, 3, 0), -1, 1);
        CHECK.told("unlike LAYERS", x, x.overlap(2, 0, 0), -1, 5);
        CHECK.told("unlike LAYERS ahead of the DAY", x, x.overlap(0, 2, -1), -1, 5);
        CHECK.told("the DAY", x, x.overlap(0, 1, -1), -1, 2);
    }

    // "How many POINTS are SETTLED in a PLACE."
    private static void points() {
        SalePlaces x = Check.desk("desk size 40 layers 1;class c;place p layer 0;place q layer 0;bound q 0" + OVER
                + ";bound p 1 0 0 1 0 1 1 0 1;bound p 2 39 39 40 39 40 40 39 40;bound p 3" + OVER + ";bound p 4 none");
        int[] ofP = {0, 1, 1, 1600, 0};
        for (int day = 0; day < ofP.length; day++) {
            CHECK.told("of p on " + day, x, x.points(0, day), ofP[day], 0);
            CHECK.told("of q on " + day, x, x.points(1, day), 1600 - ofP[day], 0);
        }
        x = Check.desk("desk size 2 layers 1;class c;place p layer 0;bound p 0 0 0 2 0 2 2 0 2");
        CHECK.told("of the smallest", x, x.points(0, 0), 4, 0);
    }

    // "How many POINTS have a STACK of so many (0 .. 4)."
    private static void stacked() {
        SalePlaces x = Check.desk(LARGE + "bound a 1" + OVER + ";bound b 2" + OVER + ";bound d 3" + OVER
                + ";bound e 4" + OVER);
        for (int day = 0; day < 5; day++) {
            for (int many = 0; many <= 4; many++) {
                int due = (many == day ? 1600 : 0) + (many == 0 ? 81 : 0);
                CHECK.told("of " + many + " on " + day, x, x.stacked(many, day), due, 0);
            }
        }
        CHECK.told("of five", x, x.stacked(5, 0), -1, 2);
        CHECK.told("of -1", x, x.stacked(-1, 0), -1, 2);
        x = Check.desk("desk size 2 layers 1;class c;place p layer 0");
        CHECK.told("all have none", x, x.stacked(0, 0), 9, 0);
        CHECK.told("of more than LAYERS", x, x.stacked(4, 0), 0, 0);
    }

    // "DAYS of calls are 0 .. 999, POINTS 0 .. SIZE each: else 2."
    private static void pointsOfASize() {
        for (int size : new int[] {2, 3, 39, 40}) {
            int[][] due = {{0, 0, 0}, {size, size, 0}, {size, 0, 0}, {0, size, 0}, {size + 1, 0, 2}, {0, size + 1, 2},
                {-1, 0, 2}, {0, -1, 2}, {size + 1, size + 1, 2}, {-1, size, 2}};
            for (int[] row : due) {
                SalePlaces x = Check.desk("desk size " + size + " layers 1;class c;place p layer 0");
                String what = row[0] + " " + row[1] + " of size " + size;
                refusedOrNot(what, x, x.inside(0, 999, row[0], row[1]), 0, row[2]);
                refusedOrNot(what, x, x.onEdge(0, 999, row[0], row[1]), 0, row[2]);
                refusedOrNot(what, x, x.settled(0, 999, row[0], row[1]), -2, row[2]);
                refusedOrNot(what, x, x.stack(999, row[0], row[1]), 0, row[2]);
                refusedOrNot(what, x, x.nextStack(999, row[0], row[1]), -2, row[2]);
                refusedOrNot(what, x, x.stackRate(999, row[0], row[1], 0), 0, row[2]);
                refusedOrNot(what, x, x.due(999, row[0], row[1], 0, 1, 1), 0, row[2]);
                refusedOrNot(what, x, x.bestDay(999, 999, row[0], row[1], 0, 1, 1), 999, row[2]);
                refusedOrNot(what, x, x.sale(999, row[0], row[1], 0, 1, 1), 0, row[2]);
                CHECK.told(what, x, x.stackAt(999, row[0], row[1], 0), -1, row[2] == 0 ? 1 : 2);
            }
        }
    }

    private static void refusedOrNot(String what, SalePlaces x, int got, int due, int trouble) {
        CHECK.told(what, x, got, trouble == 0 ? due : -1, trouble);
    }
}
