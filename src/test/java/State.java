import java.util.NoSuchElementException;

/**
 * What the face tells of an object, but TROUBLE and where(), which every call changes: so that a test
 * can see that a refused call has changed nothing. An object is good for 512 calls; this takes less
 * than 400 of a full one.
 */
final class State {
    private final SalePlaces x;
    private final StringBuilder told = new StringBuilder();

    private State(SalePlaces x) {
        this.x = x;
    }

    static String of(SalePlaces x) {
        State state = new State(x);
        state.tellSizes();
        state.tellDesk();
        state.tellLines();
        state.tellFilings();
        return state.told.toString();
    }

    private void put(long number) {
        told.append(number).append(' ');
    }

    private void tellSizes() {
        told.append("fault, sizes ");
        put(x.fault());
        for (int what = 0; what < 3; what++) {
            put(x.size(what));
        }
        for (int what = 0; what < 9; what++) {
            put(x.about(what));
        }
    }

    private void tellDesk() {
        int classes = x.about(2);
        int places = x.about(3);
        for (int c = 0; c < classes; c++) {
            told.append("class ");
            put(x.above(c));
        }
        for (int p = 0; p < places; p++) {
            told.append("place ");
            put(x.place(p, 0) * 100 + x.place(p, 1) * 50 + x.place(p, 2));
            put(x.nextMove(p, 0));
            put(x.area(p, 999));
            put(x.corner(p, 999, 0, 0));
            for (int c = 0; c < classes; c++) {
                put(x.rate(p, c, 999));
            }
            put(x.cap(p, 0));
        }
        put(x.stacked(1, 999));
    }

    private void tellLines() {
        int lines = x.about(8);
        for (int l = 0; l < lines; l++) {
            told.append("line ");
            put(x.line(l, 0) * 100 + x.line(l, 6));
            put(x.line(l, 8));
            put(x.line(l, 9));
        }
        int entries = Math.min(x.entries(), 20);
        for (int i = 0; i < entries; i++) {
            told.append("entry ");
            put(x.entry(i, 0) * 10 + x.entry(i, 1));
        }
        put(x.taxes(-1, -1));
        put(x.wrong());
        put(idle());
    }

    private void tellFilings() {
        int filings = x.filings();
        for (int i = 0; i < filings; i++) {
            told.append("filing ");
            put(x.filing(i, 0) * 100 + x.filing(i, 1));
            put(x.pays(i, -1));
        }
        put(x.pending(999, -1));
    }

    private int idle() {
        try {
            return x.idle(0);
        } catch (NoSuchElementException e) {
            return -1;
        }
    }
}
