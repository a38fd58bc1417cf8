/** Promises 3 to 5: texts, each with the FAULT that is due and its place ('^' stands ahead of it). */
public final class FaultsTest {
    private static final Check CHECK = new Check();
    private static final Texts TEXTS = new Texts(CHECK);
    private static final String D = "desk size 5 layers 2;";
    private static final String CP = D + "class c;class e of c;place p layer 0;place q layer 1 only;";

    public static void main(String[] args) {
        good();
        form();
        signs();
        names();
        again();
        bounds();
        many();
        lacks();
        stays();
        CHECK.end();
    }

    private static void bad(int number, String marked) {
        TEXTS.bad(number, marked);
    }

    private static void fine(int places, String text) {
        TEXTS.fine(places, text);
    }

    private static void good() {
        fine(2, CP + "bound p 0 none");
        fine(2, "  desk  size 5layers2 ;class c;class e of c;place p layer 0only;place q layer 1   ");
        fine(2, D + "class size;class layers of size;place layer layer 1;place price layer 0;"
                + "holiday price size 0 0 price 1;cap layer layers 9999;rate layer layers 999 2500");
        fine(1, "desk size 0002 layers 4;class abcdefg;place a layer 3");
        fine(1, "desk size 40 layers 1;place p layer 0;class c;bound p 999 0 40 40 0 40 40 0 0 1 1 2 2");
        fine(2, CP + "bound p 5 none;bound q 5 none;bound p 6 none");
        fine(2, CP + "rate p c 5 0;rate p e 5 0;rate q c 5 0;rate p c 6 0");
        fine(2, CP + "cap p c 1;cap p e 1;cap q c 1");
        fine(2, CP + "holiday p c 3 3 price 1;holiday p c 1 999 price 9999");
    }

    private static void form() {
        bad(1, "^");
        bad(1, "   ^");
        bad(1, "^;");
        bad(1, "^size 5");
        bad(1, "^tesk size 5 layers 2");
        bad(1, D + "class c ^if d");
        bad(1, "^5");
        bad(1, "desk^");
        bad(1, "desk ^layers 2 size 5");
        bad(1, "desk size ^layers");
        bad(1, "desk size 5 ^size");
        bad(1, "desk size 5 layers ^;");
        bad(1, "desk size 5 layers 2 ^3");
        bad(1, "desk size 5 layers 2 ^class c");
        bad(1, D + "^");
        bad(1, D + "^;class c");
        bad(1, D + "class ^7");
        bad(1, D + "class ^");
        bad(1, D + "class c ^c");
        bad(1, D + "class c of ^");
        bad(1, D + "place p ^0");
        bad(1, D + "place p layer ^only");
        bad(1, D + "place p layer 0 ^layer");
        bad(1, D + "place p layer 0 only ^only");
        bad(1, CP + "bound ^0");
        bad(1, CP + "bound p ^none");
        bad(1, CP + "bound p 0 ^only");
        bad(1, CP + "bound p 0^");
        bad(1, CP + "bound p 0 none ^0");
        bad(1, CP + "bound p 0 0 0 1 1 2^;bound p 1 none");
        bad(1, CP + "bound p 0 0 0 1 1^;");
        bad(1, CP + "bound p 0 0 0 1 1 2 2 3^");
        bad(1, CP + "bound p 0 0 0 1 1 2 2 3 ^none");
        bad(1, CP + "bound p 0 0 0 1 1 2 2 3 3 4 4 5 5 ^1 1");
        bad(1, CP + "bound p 0 0 0 1 1 2 2 3 3 4 4 5 5 ^9 9");
        bad(1, CP + "rate p ^0");
        bad(1, CP + "rate p c 0^");
        bad(1, CP + "rate p c 0 5 ^5");
        bad(1, CP + "holiday p c 0 ^price 5");
        bad(1, CP + "holiday p c 0 0 ^50");
        bad(1, CP + "holiday p c 0 0 price^");
        bad(1, CP + "cap p c ^p");
        bad(1, CP + "cap p c 5 ^price");
        bad(1, CP + "^tax p c 5");
    }

    private static void signs() {
        bad(1, "^Desk size 5 layers 2");
        bad(1, "desk size ^-5");
        bad(1, "desk size 5^, layers 2");
        bad(1, "desk^\tsize 5");
        bad(1, "^\u00e9");
        bad(1, D + "^\u0000");
        bad(1, D + "class ^abcdefgh");
        bad(1, D + "class c;class abcdefg;^classes");
        bad(1, "desk size ^00005");
        bad(1, D + "class c^.");
        bad(1, D + "place p layer ^12345");
        bad(1, CP + "rate p c 0 ^.");
        bad(1, CP + "rate p ^.");
        bad(1, CP + "rate p c 0 5;^.");
        bad(1, CP + "bound p 0 none^.");
    }

    private static void names() {
        for (String word : new String[] {"desk", "class", "place", "bound", "rate", "holiday", "cap", "of", "only",
            "none"}) {
            bad(1, D + "class ^" + word);
            bad(1, D + "place ^" + word + " layer 0");
            bad(1, CP + "bound ^" + word + " 0 none");
            bad(1, CP + "rate p ^" + word + " 0 0");
        }
        bad(2, D + "class c of ^d");
        bad(2, D + "class c of ^c");
        bad(2, CP + "class f of ^p");
        bad(2, CP + "class f of ^g;class g");
        bad(2, CP + "bound ^c 0 none");
        bad(2, CP + "bound ^r 0 none;place r layer 0");
        bad(2, CP + "rate ^c c 0 0");
        bad(2, CP + "rate p ^q 0 0");
        bad(2, CP + "rate p ^z 0 0");
        bad(2, CP + "holiday ^x c 0 0 price 1");
        bad(2, CP + "holiday p ^p 0 0 price 1");
        bad(2, CP + "cap ^e c 1");
        bad(2, CP + "cap p ^p 1");
        bad(2, CP + "cap p ^size 1");
    }

    private static void again() {
        bad(3, D + "class c;class ^c");
        bad(3, D + "class c;place ^c layer 0");
        bad(3, D + "place p layer 0;class ^p");
        bad(3, D + "place p layer 0;place ^p layer 0");
        bad(3, D + "class c;class ^c of z");
        bad(3, CP + "cap p c 5;cap p ^c 5");
        bad(3, CP + "cap p c 5;cap q c 5;cap p ^c");
        bad(3, D + "^desk size 5 layers 2");
        bad(3, CP + "^desk");
    }

    private static void bounds() {
        bad(4, "desk size ^1 layers 2");
        bad(4, "desk size ^41 layers");
        bad(4, "desk size 5 layers ^0");
        bad(4, "desk size 5 layers ^5");
        bad(4, D + "place p layer ^2");
        bad(4, CP + "bound p ^1000 none");
        bad(4, CP + "bound p 5 none;bound p ^5 none");
        bad(4, CP + "bound p 5 none;bound q 5 none;bound p ^4 none");
        bad(4, CP + "bound p 999 none;bound p ^999 none");
        bad(4, CP + "bound p 0 ^6 0 1 0 1 1");
        bad(4, CP + "bound p 0 0 0 0 ^6");
        bad(4, CP + "bound p 0 0 0 1 1 2 2 3 ^6");
        bad(4, CP + "rate p c ^1000 5");
        bad(4, CP + "rate p c 0 ^2501");
        bad(4, CP + "rate p c 5 0;rate p c ^5 0");
        bad(4, CP + "rate p c 5 0;rate p e 9 0;rate p c ^4 0");
        bad(4, CP + "holiday p c ^1000 0 price 5");
        bad(4, CP + "holiday p c 0 ^1000 price 5");
        bad(4, CP + "holiday p c 5 ^4 price 5");
        bad(4, CP + "holiday p c 5 5 price ^0");
        bad(4, CP + "cap p c ^0");
    }

    private static void many() {
        String sixClasses = D + "class a;class b;class c;class d;class e;class f;";
        fine(1, sixClasses + "place p layer 0");
        bad(5, sixClasses + "^class g");
        bad(5, sixClasses + "^class");
        StringBuilder places = new StringBuilder(D + "class c");
        for (char p = 'p'; p < 'z'; p++) {
            places.append(";place ").append(p).append(" layer 0");
        }
        fine(10, places.toString());
        bad(5, places + ";^place z layer 0");
        full(16, "bound p # none");
        full(20, "rate p c # 5");
        full(6, "holiday p c # 9 price 5");
        String caps = CP + "class f;class g;class h;cap p c 1;cap p e 1;cap p f 1;cap p g 1;cap q c 1;cap q e 1";
        fine(2, caps);
        bad(5, caps + ";^cap p h 1");
    }

    private static void full(int room, String line) {
        StringBuilder text = new StringBuilder(CP.substring(0, CP.length() - 1));
        for (int k = 0; k < room; k++) {
            text.append(';').append(line.replace("#", String.valueOf(k)));
        }
        fine(2, text.toString());
        bad(5, text + ";^" + line.replace("#", String.valueOf(room)));
    }

    private static void lacks() {
        bad(6, "^class c;desk size 5 layers 2");
        bad(6, "^place");
        bad(6, "^bound p 0 none");
        bad(6, "^rate");
        bad(6, " ^holiday");
        bad(6, "^cap 5");
        bad(6, "desk size 5 layers 2^");
        bad(6, D + "class c^");
        bad(6, D + "place p layer 0^");
        bad(6, D + "place p layer 0  ^");
    }

    // What a DESK that isn't taken leaves, and which calls change what where() answers.
    private static void stays() {
        SalePlaces x = Check.desk(Desks.PLAIN);
        CHECK.same("sale", x.sale(1, 0, 0, 0, 1, 100), 0);
        Check.feed(x, "desk size 5 layers 2");
        CHECK.told("desk(-1)", x, x.desk(-1), -1, 2);
        CHECK.told("desk(21)", x, x.desk(21), -1, 2);
        CHECK.same("the tape stays", x.size(0), 20);
        CHECK.same("fault of none", x.fault(), 0);
        CHECK.told("desk(20)", x, x.desk(20), -1, 4);
        CHECK.same("the tape is empty", x.size(0), 0);
        CHECK.same("where", x.where(), 20);
        CHECK.same("the size stays", x.about(0), 4);
        CHECK.same("where behind another call", x.where(), -1);
        CHECK.same("the fault stays", x.fault(), 6);
        CHECK.same("the book stays", x.about(8), 1);
        CHECK.same("what can be undone stays", x.size(1), 1);
        CHECK.told("desk(1)", x, x.desk(1), -1, 2);
        CHECK.same("fault of the one ahead", x.fault(), 6);
        CHECK.same("where with 2", x.where(), -1);
        CHECK.told("a new desk", x, Check.read(x, Desks.SLOPE), 2, 0);
        CHECK.same("no fault", x.fault(), 0);
        CHECK.same("the book is empty", x.about(8), 0);
        CHECK.same("nothing to undo", x.size(1), 0);
        CHECK.same("undo", x.undo() ? 1 : 0, 0);
    }
}
