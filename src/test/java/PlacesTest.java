/** Promises 9 to 21: borders and points. */
public final class PlacesTest {
    private static final Check CHECK = new Check();
    private static final int FAR = Integer.MIN_VALUE;

    public static void main(String[] args) {
        corners();
        corner();
        area();
        inside();
        slopes();
        onEdge();
        nextMove();
        settled();
        stack();
        stackAt();
        nextStack();
        overlap();
        points();
        stacked();
        CHECK.end();
    }

    private static void corners() {
        SalePlaces x = Check.desk(Desks.SLOPE);
        CHECK.told("three", x, x.corners(0, 999), 3, 0);
        CHECK.told("none", x, x.corners(1, 5), 0, 0);
        CHECK.told("four", x, x.corners(1, 6), 4, 0);
        CHECK.told("day 1000", x, x.corners(1, 1000), -1, 2);
        CHECK.told("day -1", x, x.corners(1, -1), -1, 2);
        CHECK.told("place 2", x, x.corners(2, -1), -1, 1);
        CHECK.told("place -1", x, x.corners(-1, 0), -1, 1);
        x = Check.desk(Desks.CITY);
        CHECK.told("ahead of the first", x, x.corners(2, 4), 0, 0);
        CHECK.told("from the first", x, x.corners(2, 5), 4, 0);
        CHECK.told("never", x, x.corners(5, 999), 0, 0);
    }

    private static void corner() {
        SalePlaces x = Check.desk(Desks.SLOPE);
        int[] due = {0, 0, 10, 10, 0, 10};
        for (int k = 0; k < 6; k++) {
            CHECK.told("corner " + k, x, x.corner(0, 7, k / 2, k % 2), due[k], 0);
        }
        CHECK.told("corner 3", x, x.corner(0, 7, 3, 0), -1, 1);
        CHECK.told("corner -1", x, x.corner(0, 7, -1, 0), -1, 1);
        CHECK.told("corner of none", x, x.corner(1, 3, 0, 0), -1, 1);
        CHECK.told("the later bound", x, x.corner(1, 6, 2, 1), 8, 0);
        CHECK.told("what 2 ahead of the day", x, x.corner(0, 1000, 0, 2), -1, 1);
        CHECK.told("what -1", x, x.corner(0, 0, 0, -1), -1, 1);
        CHECK.told("the place ahead of the day", x, x.corner(2, 1000, 0, 0), -1, 1);
        CHECK.told("the day ahead of i", x, x.corner(0, 1000, 9, 0), -1, 2);
        x = Check.desk(Desks.CITY);
        CHECK.told("no bound yet", x, x.corner(2, 4, 0, 0), -1, 1);
    }

    private static void area() {
        SalePlaces x = Check.desk(Desks.SLOPE);
        CHECK.told("a triangle", x, x.area(0, 0), 100, 0);
        CHECK.told("none", x, x.area(1, 3), 0, 0);
        CHECK.told("a square", x, x.area(1, 6), 72, 0);
        CHECK.told("place", x, x.area(2, -1), FAR, 1);
        CHECK.told("day", x, x.area(0, -1), FAR, 2);
        CHECK.told("day 1000", x, x.area(0, 1000), FAR, 2);
        x = Check.desk("desk size 40 layers 1;class c;place p layer 0;bound p 1 0 0 0 40 40 40 40 0;"
                + "bound p 2 0 0 40 40 40 0 0 40;bound p 3 5 5 5 5 5 5;bound p 4 1 1 4 1 4 5");
        CHECK.told("no bound yet", x, x.area(0, 0), 0, 0);
        CHECK.told("the other way round", x, x.area(0, 1), -3200, 0);
        CHECK.told("a bow", x, x.area(0, 2), 0, 0);
        CHECK.told("one point", x, x.area(0, 3), 0, 0);
        CHECK.told("three by four", x, x.area(0, 4), 12, 0);
    }

    private static void inside() {
        SalePlaces x = Check.desk(Desks.CITY);
        CHECK.told("west and north borders", x, x.inside(1, 0, 0, 0), 1, 0);
        CHECK.told("east border", x, x.inside(1, 0, 10, 5), 0, 0);
        CHECK.told("south border", x, x.inside(1, 0, 5, 10), 0, 0);
        CHECK.told("last within", x, x.inside(1, 0, 9, 9), 1, 0);
        CHECK.told("west of it", x, x.inside(2, 5, 4, 5), 0, 0);
        CHECK.told("ahead of its day", x, x.inside(2, 4, 7, 5), 0, 0);
        CHECK.told("from its day", x, x.inside(2, 5, 7, 5), 1, 0);
        CHECK.told("no bound", x, x.inside(5, 5, 7, 5), 0, 0);
        CHECK.told("none since", x, x.inside(4, 30, 7, 5), 0, 0);
        CHECK.told("the place first", x, x.inside(6, -1, 0, 0), -1, 1);
        CHECK.told("day", x, x.inside(0, 1000, 0, 0), -1, 2);
        CHECK.told("x", x, x.inside(0, 0, 21, 0), -1, 2);
        CHECK.told("x below 0", x, x.inside(0, 0, -1, 0), -1, 2);
        CHECK.told("y", x, x.inside(0, 0, 0, 21), -1, 2);
        CHECK.told("y below 0", x, x.inside(0, 0, 0, -1), -1, 2);
        CHECK.told("the last point", x, x.inside(0, 0, 20, 20), 0, 0);
    }

    // EDGES that cross a row between two whole X, rising and falling, and an area that crosses itself.
    private static void slopes() {
        SalePlaces x = Check.desk("desk size 9 layers 1;class c;place p layer 0;bound p 0 0 0 7 0 4 3;"
                + "bound p 1 4 3 7 0 0 0;bound p 2 0 0 8 8 8 0 0 8;bound p 3 0 0 9 0 9 9 1 9 1 1 0 1");
        // Row 1: from 4/3 to 6; row 2: from 8/3 to 5.
        int[][] in = {{1, 1, 0}, {2, 1, 1}, {5, 1, 1}, {6, 1, 0}, {2, 2, 0}, {3, 2, 1}, {4, 2, 1}, {5, 2, 0},
            {4, 3, 0}, {0, 0, 1}, {6, 0, 1}, {7, 0, 0}};
        for (int[] row : in) {
            for (int day = 0; day < 2; day++) {
                CHECK.same("triangle " + row[0] + " " + row[1], x.inside(0, day, row[0], row[1]), row[2]);
            }
        }
        int[][] bow = {{1, 4, 1}, {4, 1, 0}, {4, 4, 1}, {7, 4, 1}, {4, 6, 0}, {0, 0, 0}, {0, 7, 1}, {8, 3, 0}};
        for (int[] row : bow) {
            CHECK.same("bow " + row[0] + " " + row[1], x.inside(0, 2, row[0], row[1]), row[2]);
        }
        CHECK.same("a hook's thin part", x.inside(0, 3, 0, 0), 1);
        CHECK.same("below the thin part", x.inside(0, 3, 0, 1), 0);
        CHECK.same("the thick part", x.inside(0, 3, 1, 1), 1);
    }

    private static void onEdge() {
        SalePlaces x = Check.desk(Desks.SLOPE);
        CHECK.told("on a slope", x, x.onEdge(0, 0, 5, 5), 1, 0);
        CHECK.told("beside it", x, x.onEdge(0, 0, 5, 6), 0, 0);
        CHECK.told("a corner", x, x.onEdge(0, 0, 0, 10), 1, 0);
        CHECK.told("from the last to the first", x, x.onEdge(0, 0, 0, 4), 1, 0);
        CHECK.told("on the line, behind its end", x, x.onEdge(1, 6, 9, 8), 0, 0);
        CHECK.told("on the line, ahead of it", x, x.onEdge(1, 6, 2, 1), 0, 0);
        CHECK.told("on it", x, x.onEdge(1, 6, 8, 8), 1, 0);
        CHECK.told("within", x, x.onEdge(1, 6, 5, 5), 0, 0);
        CHECK.told("none", x, x.onEdge(1, 3, 5, 5), 0, 0);
        CHECK.told("the place first", x, x.onEdge(2, -1, 0, 0), -1, 1);
        CHECK.told("day", x, x.onEdge(0, 1000, 0, 0), -1, 2);
        CHECK.told("x", x, x.onEdge(0, 0, 11, 0), -1, 2);
        CHECK.told("y", x, x.onEdge(0, 0, 0, -1), -1, 2);
        x = Check.desk("desk size 5 layers 1;class c;place p layer 0;bound p 5 3 3 3 3 3 3");
        CHECK.told("an edge of one point", x, x.onEdge(0, 5, 3, 3), 1, 0);
        CHECK.told("beside one point", x, x.onEdge(0, 5, 3, 4), 0, 0);
        CHECK.told("ahead of its day", x, x.onEdge(0, 4, 3, 3), 0, 0);
        // EDGES from 2 1 to 6 3 (its middle is a POINT), to 3 9 and back.
        x = Check.desk("desk size 9 layers 1;class c;place p layer 0;bound p 0 2 1 6 3 3 9");
        int[][] on = {{2, 1}, {4, 2}, {6, 3}, {5, 5}, {4, 7}, {3, 9}};
        int found = 0;
        for (int at = 0; at < 100; at++) {
            found += x.onEdge(0, 0, at % 10, at / 10);
        }
        CHECK.same("how many on slopes", found, on.length);
        for (int[] row : on) {
            CHECK.told("on slopes " + row[0], x, x.onEdge(0, 0, row[0], row[1]), 1, 0);
        }
    }

    private static void nextMove() {
        SalePlaces x = Check.desk(Desks.SLOPE);
        CHECK.told("from 0", x, x.nextMove(1, 0), 3, 0);
        CHECK.told("from 2", x, x.nextMove(1, 2), 3, 0);
        CHECK.told("from 3", x, x.nextMove(1, 3), 6, 0);
        CHECK.told("from 6", x, x.nextMove(1, 6), -2, 0);
        CHECK.told("of the other", x, x.nextMove(0, 0), -2, 0);
        x.move(0, 500, 0, 0);
        CHECK.told("one that is alike", x, x.nextMove(0, 0), 500, 0);
        CHECK.told("the place first", x, x.nextMove(2, 1000), -1, 1);
        CHECK.told("day", x, x.nextMove(0, 1000), -1, 2);
        CHECK.told("day -1", x, x.nextMove(0, -1), -1, 2);
        x = Check.desk(Desks.CITY);
        CHECK.told("the first one", x, x.nextMove(3, 0), 10, 0);
        CHECK.told("without any", x, x.nextMove(5, 0), -2, 0);
        x = Check.desk("desk size 4 layers 1;class c;place p layer 0;bound p 5 0 0 4 0 4 4;bound p 999 none");
        CHECK.told("the first of all", x, x.nextMove(0, 4), 5, 0);
        CHECK.told("the last day", x, x.nextMove(0, 5), 999, 0);
        CHECK.told("the first stack of all", x, x.nextStack(4, 1, 0), 5, 0);
        CHECK.told("the last day's stack", x, x.nextStack(5, 1, 0), 999, 0);
    }

    private static void settled() {
        SalePlaces x = Check.desk(Desks.CITY);
        CHECK.told("layer 0", x, x.settled(0, 0, 5, 5), 0, 0);
        CHECK.told("layer 1", x, x.settled(1, 0, 5, 5), 1, 0);
        CHECK.told("the first of two", x, x.settled(1, 5, 7, 5), 1, 0);
        CHECK.told("the second alone", x, x.settled(1, 5, 10, 5), 2, 0);
        CHECK.told("ahead of its day", x, x.settled(1, 4, 10, 5), -2, 0);
        CHECK.told("behind an only one", x, x.settled(2, 10, 5, 15), 4, 0);
        CHECK.told("none any more", x, x.settled(2, 30, 5, 15), -2, 0);
        CHECK.told("layer 3 ahead of the day", x, x.settled(3, 1000, 0, 0), -1, 1);
        CHECK.told("layer -1", x, x.settled(-1, 0, 0, 0), -1, 1);
        CHECK.told("day", x, x.settled(0, 1000, 0, 0), -1, 2);
        CHECK.told("x", x, x.settled(0, 0, 21, 0), -1, 2);
        CHECK.told("y", x, x.settled(0, 0, 0, -1), -1, 2);
    }

    private static void stack() {
        SalePlaces x = Check.desk(Desks.CITY);
        CHECK.told("three", x, x.stack(0, 5, 5), 3, 0);
        CHECK.told("two without the middle", x, x.stack(0, 5, 15), 2, 0);
        CHECK.told("up to an only one", x, x.stack(10, 5, 15), 2, 0);
        CHECK.told("day 30", x, x.stack(30, 5, 5), 2, 0);
        CHECK.told("nobody", x, x.stack(0, 20, 20), 0, 0);
        CHECK.told("day", x, x.stack(-1, 0, 0), -1, 2);
        CHECK.told("x", x, x.stack(0, 21, 0), -1, 2);
        CHECK.told("y", x, x.stack(0, 0, 21), -1, 2);
    }

    private static void stackAt() {
        SalePlaces x = Check.desk(Desks.CITY);
        CHECK.told("0", x, x.stackAt(5, 12, 5, 0), 0, 0);
        CHECK.told("1", x, x.stackAt(5, 12, 5, 1), 2, 0);
        CHECK.told("2", x, x.stackAt(5, 12, 5, 2), 4, 0);
        CHECK.told("3", x, x.stackAt(5, 12, 5, 3), -1, 1);
        CHECK.told("-1", x, x.stackAt(5, 12, 5, -1), -1, 1);
        CHECK.told("the middle is lacking", x, x.stackAt(4, 12, 5, 1), 4, 0);
        CHECK.told("the only one itself", x, x.stackAt(10, 5, 15, 1), 3, 0);
        CHECK.told("behind the only one", x, x.stackAt(10, 5, 15, 2), -1, 1);
        CHECK.told("of nobody", x, x.stackAt(10, 20, 15, 0), -1, 1);
        CHECK.told("the day ahead of i", x, x.stackAt(1000, 5, 15, 9), -1, 2);
        CHECK.told("x ahead of i", x, x.stackAt(0, -1, 15, 9), -1, 2);
        CHECK.told("y ahead of i", x, x.stackAt(0, 0, 21, 9), -1, 2);
    }

    private static void nextStack() {
        SalePlaces x = Check.desk(Desks.CITY);
        CHECK.told("an only one comes", x, x.nextStack(0, 5, 15), 10, 0);
        CHECK.told("what goes behind it doesn't count", x, x.nextStack(10, 5, 15), -2, 0);
        CHECK.told("one comes", x, x.nextStack(0, 12, 5), 5, 0);
        CHECK.told("the day ahead", x, x.nextStack(4, 12, 5), 5, 0);
        CHECK.told("one goes", x, x.nextStack(5, 12, 5), 30, 0);
        CHECK.told("one that isn't settled comes", x, x.nextStack(0, 7, 5), 30, 0);
        CHECK.told("behind all", x, x.nextStack(30, 7, 5), -2, 0);
        CHECK.told("never any", x, x.nextStack(0, 20, 0), -2, 0);
        CHECK.told("day", x, x.nextStack(1000, 7, 5), -1, 2);
        CHECK.told("x", x, x.nextStack(0, 21, 5), -1, 2);
        CHECK.told("y", x, x.nextStack(0, 0, -1), -1, 2);
        // As many PLACES, but another one.
        x = Check.desk("desk size 4 layers 1;class c;place p layer 0;place q layer 0;"
                + "bound q 0 0 0 4 0 4 4 0 4;bound p 7 0 0 4 0 4 4 0 4");
        CHECK.told("another of as many", x, x.nextStack(0, 1, 1), 7, 0);
    }

    private static void overlap() {
        SalePlaces x = Check.desk(Desks.CITY);
        CHECK.told("half", x, x.overlap(1, 2, 5), 50, 0);
        CHECK.told("either way", x, x.overlap(2, 1, 5), 50, 0);
        CHECK.told("ahead of its day", x, x.overlap(1, 2, 4), 0, 0);
        CHECK.told("side by side", x, x.overlap(1, 3, 10), 0, 0);
        CHECK.told("with none", x, x.overlap(4, 5, 10), 0, 0);
        CHECK.told("the same ahead of all", x, x.overlap(1, 1, 1000), -1, 1);
        CHECK.told("no such place", x, x.overlap(1, 6, 1000), -1, 1);
        CHECK.told("no such first place", x, x.overlap(-1, 1, 1000), -1, 1);
        CHECK.told("layers ahead of the day", x, x.overlap(0, 1, 1000), -1, 5);
        CHECK.told("day", x, x.overlap(1, 2, 1000), -1, 2);
        x = Check.desk(Desks.SLOPE);
        CHECK.told("at either side of a slope", x, x.overlap(0, 1, 0), 0, 0);
        CHECK.told("a square over a slope", x, x.overlap(0, 1, 6), 15, 0);
        x = Check.desk("desk size 4 layers 1;class c;place p layer 0;place q layer 0;bound p 0 0 0 4 0 4 4 0 4;"
                + "bound q 0 0 0 2 0 2 4 0 4");
        CHECK.told("from the first column and row on", x, x.overlap(0, 1, 0), 8, 0);
        CHECK.told("the first one has them", x, x.points(1, 0), 0, 0);
    }

    private static void points() {
        SalePlaces x = Check.desk(Desks.CITY);
        CHECK.told("all", x, x.points(0, 0), 400, 0);
        CHECK.told("ci", x, x.points(1, 5), 100, 0);
        CHECK.told("cj without what is ci's", x, x.points(2, 5), 50, 0);
        CHECK.told("cj ahead of its day", x, x.points(2, 4), 0, 0);
        CHECK.told("behind an only one", x, x.points(4, 10), 400, 0);
        CHECK.told("no bound", x, x.points(5, 10), 0, 0);
        CHECK.told("the place first", x, x.points(6, 1000), -1, 1);
        CHECK.told("day", x, x.points(0, 1000), -1, 2);
        x = Check.desk(Desks.SLOPE);
        CHECK.told("a side of a slope", x, x.points(0, 0), 45, 0);
        CHECK.told("its other side", x, x.points(1, 0), 55, 0);
    }

    private static void stacked() {
        SalePlaces x = Check.desk(Desks.CITY);
        int[][] due = {{0, 41, 0, 300, 100, 0}, {10, 41, 0, 250, 150, 0}, {30, 41, 150, 250, 0, 0}};
        for (int[] row : due) {
            for (int many = 0; many <= 4; many++) {
                CHECK.told("stacked " + many + " on " + row[0], x, x.stacked(many, row[0]), row[many + 1], 0);
            }
        }
        CHECK.told("five", x, x.stacked(5, 0), -1, 2);
        CHECK.told("-1", x, x.stacked(-1, 0), -1, 2);
        CHECK.told("day", x, x.stacked(0, 1000), -1, 2);
        x = Check.desk("desk size 3 layers 4;class c;place a layer 0;place b layer 1;place d layer 2;place e layer 3;"
                + "bound a 0 0 0 3 0 3 3 0 3;bound b 0 0 0 3 0 3 3 0 3;bound d 0 0 0 3 0 3 3 0 3;bound e 0 0 0 1 0 1 1 0 1");
        CHECK.told("four", x, x.stacked(4, 0), 1, 0);
        CHECK.told("three", x, x.stacked(3, 0), 8, 0);
        CHECK.told("nobody", x, x.stacked(0, 0), 7, 0);
    }
}
