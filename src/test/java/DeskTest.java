/** Promises 1, 2, 3, 6, 7, 8, and that every call is refused by 1 without a DESK. */
public final class DeskTest {
    private static final Check CHECK = new Check();

    public static void main(String[] args) {
        fresh();
        feed();
        desk();
        about();
        above();
        place();
        CHECK.end();
    }

    private static void fresh() {
        SalePlaces x = new SalePlaces();
        CHECK.same("NONE", SalePlaces.NONE, -1);
        CHECK.same("trouble", x.trouble(), 0);
        CHECK.same("fault", x.fault(), 0);
        CHECK.same("where", x.where(), -1);
        CHECK.same("size(0)", x.size(0), 0);
        CHECK.same("size(1)", x.size(1), 0);
        CHECK.same("size(2)", x.size(2), 0);
        int far = Integer.MIN_VALUE;
        // Numbers that would be refused by 2 are refused by 1 here.
        refused(x, "about", x.about(0), -1);
        refused(x, "above", x.above(0), -1);
        refused(x, "place", x.place(0, 0), -1);
        refused(x, "corners", x.corners(0, -1), -1);
        refused(x, "corner", x.corner(0, -1, 0, 0), -1);
        refused(x, "area", x.area(0, -1), far);
        refused(x, "inside", x.inside(0, -1, 0, 0), -1);
        refused(x, "onEdge", x.onEdge(0, 0, -1, 0), -1);
        refused(x, "nextMove", x.nextMove(0, 1000), -1);
        refused(x, "settled", x.settled(0, 1000, 0, 0), -1);
        refused(x, "stack", x.stack(1000, 0, 0), -1);
        refused(x, "stackAt", x.stackAt(1000, 0, 0, 0), -1);
        refused(x, "nextStack", x.nextStack(1000, 0, 0), -1);
        refused(x, "overlap", x.overlap(0, 1, 1000), -1);
        refused(x, "points", x.points(0, 1000), -1);
        refused(x, "stacked", x.stacked(5, 1000), -1);
        refused(x, "rate", x.rate(0, 0, 1000), -1);
        refused(x, "free", x.free(0, 0, 0, 0), -1);
        refused(x, "cap", x.cap(0, 0), -1);
        refused(x, "stackRate", x.stackRate(1000, 0, 0, 0), -1);
        refused(x, "cheapest", x.cheapest(1000, 0), -1);
        refused(x, "due", x.due(0, 0, 0, 0, 0, 0), -1);
        refused(x, "bestDay", x.bestDay(5, 4, 0, 0, 0, 0, 0), -1);
        refused(x, "line", x.line(0, 0), -1);
        refused(x, "part", x.part(0, 0, 0), -1);
        refused(x, "entries", x.entries(), -1);
        refused(x, "entry", x.entry(0, 0), -1);
        refused(x, "taxes", x.taxes(-1, -1), -1);
        refused(x, "filings", x.filings(), -1);
        refused(x, "filing", x.filing(0, 0), -1);
        refused(x, "pays", x.pays(0, -1), far);
        refused(x, "pending", x.pending(1000, -1), far);
        refused(x, "wrong", x.wrong(), -1);
        refused(x, "owed", x.owed(0), far);
        refused(x, "file", x.file(1000), far);
        refused(x, "sale", x.sale(1000, 0, 0, 0, 0, 0), -1);
        refused(x, "refund", x.refund(0, 0), -1);
        refused(x, "move", x.move(0, 1000, 0, 0), -1);
        refused(x, "turn", x.turn(0, 0, 1000, 0), -1);
        refused(x, "undo", x.undo() ? 1 : 0, 0);
    }

    // TROUBLE is another one ahead of each call, so that the call itself must set it.
    private static void refused(SalePlaces x, String call, long got, long due) {
        CHECK.told(call, x, got, due, 1);
        CHECK.told("desk(-1)", x, x.desk(-1), -1, 2);
    }

    private static void feed() {
        SalePlaces x = new SalePlaces();
        for (int k = 1; k <= 60; k++) {
            CHECK.same("feed", x.feed(0, 0, 0, 0, 0), 20 * k);
        }
        CHECK.same("feed of a full tape", x.feed(0, 0, 0, 0, 0), -1);
        CHECK.same("size of a full tape", x.size(0), 1200);
        CHECK.same("trouble stays", x.trouble(), 0);
        x = new SalePlaces();
        x.desk(1);
        CHECK.same("feed", x.feed(0x6465736b, 0x2073697a, 0x65203720, 0x6c617965, 0x72732033), 20);
        CHECK.same("feed leaves trouble", x.trouble(), 2);
        Check.feed(x, ";class c;place p layer 2");
        CHECK.told("desk by bytes", x, x.desk(20 + 24), 1, 0);
        CHECK.same("size by bytes", x.about(0), 7);
        CHECK.same("layers by bytes", x.about(1), 3);
        // A byte above 127 is no small letter.
        x.feed(0xe4e5f3eb, -1, -1, -1, -1);
        CHECK.told("high bytes", x, x.desk(20), -1, 4);
        CHECK.same("high bytes, where", x.where(), 0);
        // A tape of 1,200 bytes can be a DESK.
        StringBuilder text = new StringBuilder(Desks.PLAIN);
        while (text.length() < 1200) {
            text.append(' ');
        }
        CHECK.told("a full tape", x, Check.read(x, text.toString()), 2, 0);
    }

    private static void desk() {
        SalePlaces x = new SalePlaces();
        Check.feed(x, Desks.PLAIN + ";class");
        CHECK.told("a part of the tape", x, x.desk(Desks.PLAIN.length()), 2, 0);
        CHECK.same("the rest is gone", x.size(0), 0);
        Check.feed(x, Desks.PLAIN + "7");
        CHECK.told("a number cut off", x, x.desk(Desks.PLAIN.length()), 2, 0);
        CHECK.same("it is what stands ahead", x.rate(1, 0, 0), 500);
        Check.feed(x, "desk size 5 layers 1;class c;place p layer 0 onlyy");
        CHECK.told("a word cut off", x, x.desk(49), 1, 0);
        CHECK.told("an empty one", x, x.desk(0), -1, 4);
        CHECK.same("fault", x.fault(), 1);
        CHECK.same("where", x.where(), 0);
        x.sale(0, 0, 0, 0, 1, 1);
        x.file(5);
        x.move(0, 9, 0, 0);
        x.turn(0, 0, 9, 0);
        CHECK.told("the same again", x, Check.read(x, Desks.PLAIN), 2, 0);
        CHECK.same("lines", x.about(8), 0);
        CHECK.same("filings", x.filings(), 0);
        CHECK.same("bounds", x.about(4), 2);
        CHECK.same("rates", x.about(5), 3);
        CHECK.same("what can be undone", x.size(1), 0);
        CHECK.told("a sale is booked anew", x, x.sale(0, 0, 0, 0, 1, 1), 0, 0);
        CHECK.told("and isn't filed", x, x.line(0, 9), 0, 0);
        // Nothing of earlier texts is left, also not of one with a FAULT.
        String[] texts = {Desks.CITY, Desks.SLOPE, Desks.CITY + ";cap", Desks.CITY, Desks.PLAIN, Desks.CITY};
        int[] places = {6, 2, -1, 6, 2, 6};
        int[] due = {20, 3, 4, 6, 6, 6, 1, 2, 0};
        for (int k = 0; k < texts.length; k++) {
            CHECK.same("text " + k, Check.read(x, texts[k]), places[k]);
        }
        for (int what = 0; what < due.length; what++) {
            CHECK.told("about(" + what + ") at last", x, x.about(what), due[what], 0);
        }
    }

    private static void about() {
        SalePlaces x = Check.desk(Desks.CITY);
        int[] due = {20, 3, 4, 6, 6, 6, 1, 2, 0};
        for (int what = 0; what < due.length; what++) {
            CHECK.told("about(" + what + ")", x, x.about(what), due[what], 0);
        }
        CHECK.told("about(9)", x, x.about(9), -1, 1);
        CHECK.told("about(-1)", x, x.about(-1), -1, 1);
        x.move(0, 5, 0, 0);
        x.turn(0, 0, 5, 0);
        x.turn(0, 0, 6, 0);
        x.sale(0, 0, 0, 0, 1, 1);
        CHECK.same("bounds with a moved one", x.about(4), 7);
        CHECK.same("rates with turned ones", x.about(5), 8);
        CHECK.same("lines", x.about(8), 1);
    }

    private static void above() {
        SalePlaces x = Check.desk(Desks.CITY);
        CHECK.told("above(0)", x, x.above(0), -2, 0);
        CHECK.told("above(1)", x, x.above(1), 0, 0);
        CHECK.told("above(2)", x, x.above(2), 1, 0);
        CHECK.told("above(3)", x, x.above(3), -2, 0);
        CHECK.told("above(4)", x, x.above(4), -1, 1);
        CHECK.told("above(-1)", x, x.above(-1), -1, 1);
    }

    private static void place() {
        SalePlaces x = Check.desk(Desks.CITY);
        int[] layers = {0, 1, 1, 1, 2, 2};
        int[] only = {0, 0, 0, 1, 0, 0};
        int[] bounds = {1, 1, 1, 1, 2, 0};
        for (int p = 0; p < 6; p++) {
            CHECK.told("place " + p + " layer", x, x.place(p, 0), layers[p], 0);
            CHECK.told("place " + p + " only", x, x.place(p, 1), only[p], 0);
            CHECK.told("place " + p + " bounds", x, x.place(p, 2), bounds[p], 0);
        }
        CHECK.told("place(0, 3)", x, x.place(0, 3), -1, 1);
        CHECK.told("place(0, -1)", x, x.place(0, -1), -1, 1);
        CHECK.told("place(6, 0)", x, x.place(6, 0), -1, 1);
        CHECK.told("place(-1, 0)", x, x.place(-1, 0), -1, 1);
        x.move(1, 5, 1, 1);
        CHECK.same("bounds with a moved one", x.place(1, 2), 2);
    }
}
