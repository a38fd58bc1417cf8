/** What the tests share: counting wrong answers, and feeding texts. */
final class Check {
    private int wrong;

    void same(String what, long got, long due) {
        if (got != due) {
            wrong++;
            System.out.println(what + ": answered " + got + ", due is " + due);
        }
    }

    void text(String what, String got, String due) {
        if (!got.equals(due)) {
            wrong++;
            System.out.println(what + ": answered " + got + ", due is " + due);
        }
    }

    /** An answer together with the TROUBLE that it leaves. */
    void told(String what, SalePlaces x, long got, long due, int trouble) {
        same(what, got, due);
        same(what + ", trouble", x.trouble(), trouble);
    }

    void end() {
        System.exit(wrong == 0 ? 0 : 1);
    }

    /** Puts a text on THE TAPE, filled up with blanks to twenties. */
    static void feed(SalePlaces x, String text) {
        for (int at = 0; at < text.length(); at += 20) {
            x.feed(four(text, at), four(text, at + 4), four(text, at + 8), four(text, at + 12),
                    four(text, at + 16));
        }
    }

    static int four(String text, int at) {
        int number = 0;
        for (int i = at; i < at + 4; i++) {
            number = number << 8 | (i < text.length() ? text.charAt(i) & 255 : ' ');
        }
        return number;
    }

    static int read(SalePlaces x, String text) {
        feed(x, text);
        return x.desk(text.length());
    }

    static SalePlaces desk(String text) {
        SalePlaces x = new SalePlaces();
        if (read(x, text) < 0) {
            throw new IllegalStateException("fault " + x.fault() + " at " + x.where() + " of " + text);
        }
        return x;
    }
}
