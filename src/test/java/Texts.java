/** Texts with the answer, FAULT and place that are due. */
final class Texts {
    private final Check check;

    Texts(Check check) {
        this.check = check;
    }

    /** A text with '^' where the FAULT is due; the DESK that stands is to stay as it is. */
    void bad(int number, String marked) {
        int place = marked.indexOf('^');
        String text = marked.replace("^", "");
        SalePlaces x = new SalePlaces();
        check.told(marked, x, Check.read(x, text), SalePlaces.NONE, 4);
        check.same(marked + ", fault", x.fault(), number);
        check.same(marked + ", where", x.where(), place);
        check.same(marked + ", no DESK", x.about(0), SalePlaces.NONE);
        SalePlaces booked = booked();
        SalePlaces still = booked();
        check.told(marked + ", behind another", booked, Check.read(booked, text), SalePlaces.NONE, 4);
        check.same(marked + ", behind another, where", booked.where(), place);
        check.text(marked + ", the DESK stays", afterFault(booked), afterFault(still));
    }

    // A FAULT is told by fault(), the DESK and THE BOOK by all the rest.
    private static String afterFault(SalePlaces x) {
        String state = State.of(x);
        return state.substring("fault, sizes 0 ".length());
    }

    private static SalePlaces booked() {
        SalePlaces x = Check.desk(Desks.PLAIN);
        x.sale(3, 1, 1, 0, 4, 100);
        x.refund(0, 1);
        x.file(3);
        x.sale(4, 1, 1, 0, 4, 100);
        return x;
    }

    /** A text without a FAULT, and how many PLACES it has. */
    SalePlaces fine(int places, String text) {
        SalePlaces x = new SalePlaces();
        check.told(text, x, Check.read(x, text), places, 0);
        check.same(text + ", fault", x.fault(), 0);
        check.same(text + ", where", x.where(), SalePlaces.NONE);
        return x;
    }
}
