/** Term I of the document, sentence by sentence: texts with the FAULT that is due where '^' stands, and fine ones. */
final class DocumentText {
    private static final String DESK = "desk size 5 layers 2;";
    private static final String HEAD = DESK + "class c;class d of c;place p layer 0;place q layer 1";

    private final Walk walk;
    private final Texts texts;

    DocumentText(Check check, Walk walk) {
        this.walk = walk;
        texts = new Texts(check);
    }

    void all() {
        tokens();
        deskAndNames();
        bounds();
        ratesHolidaysCaps();
        names();
        form();
        otherFaults();
    }

    private void bad(int number, String marked) {
        texts.bad(number, marked);
    }

    private SalePlaces fine(int places, String text) {
        return texts.fine(places, text);
    }

    private static String times(int many, String first, String line) {
        StringBuilder text = new StringBuilder(first);
        for (int k = 0; k < many; k++) {
            text.append(line.replace("#", String.valueOf(k)).replace("@", String.valueOf((char) ('e' + k))));
        }
        return text.toString();
    }

    private void tokens() {
        walk.says("I. THE TEXT of a DESK (THE TAPE has 1,200 bytes;");
        SalePlaces x = new SalePlaces();
        for (int k = 1; k <= 60; k++) {
            walk.is("feed", x.feed(0, 0, 0, 0, 0), 20 * k);
        }
        walk.is("no room for more", x.feed(0, 0, 0, 0, 0), -1);
        walk.says("blanks, 32, part TOKENS and mean nothing else;");
        fine(2, "  " + HEAD.replace(" ", "   ").replace(";", " ; ") + " ");
        bad(1, "^de sk size 5 layers 2");
        bad(1, "desk^\tsize 5 layers 2");
        walk.says("TOKENS: WORDS of 1 to 7 small letters that stand together,");
        fine(1, DESK + "class a;place bcdefgh layer 0");
        bad(1, DESK + "class ^abcdefgh;place p layer 0");
        bad(1, DESK + "class ^Abc");
        walk.says("WHOLES of 1 to 4 digits that do,");
        fine(1, "desk size 5layers 0002;class c;place p layer 1");
        bad(1, "desk size ^00005 layers 2");
        walk.says("single ones of ;):");
        bad(1, DESK + "^;class c;place p layer 0");
        bad(1, "desk size 5 layers 2^:class c;place p layer 0");
        walk.says("LINE {; LINE}.");
        fine(2, HEAD);
        bad(1, "^");
        bad(1, HEAD + ";^");
        bad(1, HEAD + " ^class e");
        walk.says("LINE, one of:");
        bad(1, HEAD + ";^tax p c 0 5");
    }

    private void deskAndNames() {
        walk.says("desk size WHOLE layers WHOLE (SIZE, 2 .. 40; LAYERS, 1 .. 4), ahead of all others");
        SalePlaces x = fine(1, "desk size 2 layers 1;class c;place p layer 0");
        walk.is("SIZE", x.about(0), 2);
        walk.is("LAYERS", x.about(1), 1);
        x = fine(1, "desk size 40 layers 4;class c;place p layer 3");
        walk.is("SIZE", x.about(0), 40);
        walk.is("LAYERS", x.about(1), 4);
        bad(4, "desk size ^1 layers 1");
        bad(4, "desk size ^41 layers 1");
        bad(4, "desk size 5 layers ^0");
        bad(4, "desk size 5 layers ^5");
        bad(6, "^class c;desk size 5 layers 1;place p layer 0");
        walk.says("class NAME [of CLASS] (a CLASS, numbered from 0, up to 6; it is of one told ahead)");
        String six = DESK + "place p layer 0;class e;class f of e;class g;class h of f;class i;class j of i";
        x = fine(1, six);
        int[] above = {-2, 0, -2, 1, -2, 4};
        for (int c = 0; c < 6; c++) {
            walk.is("CLASS " + c + " is of", x.above(c), above[c]);
        }
        bad(5, six + ";^class k");
        bad(2, DESK + "class e of ^f;class f");
        walk.says("place NAME layer WHOLE [only] (a PLACE, numbered from 0, up to 10; its LAYER, 0 .. LAYERS - 1; "
                + "ONLY)");
        String ten = times(9, DESK + "class c", ";place @ layer 0") + ";place z layer 1 only";
        x = fine(10, ten);
        walk.is("LAYER of the first", x.place(0, 0), 0);
        walk.is("the first isn't ONLY", x.place(0, 1), 0);
        walk.is("LAYER of the tenth", x.place(9, 0), 1);
        walk.is("the tenth is ONLY", x.place(9, 1), 1);
        bad(5, ten + ";^place y layer 0");
        bad(4, DESK + "class c;place p layer ^2");
    }

    private void bounds() {
        walk.says("bound PLACE WHOLE none, or bound PLACE WHOLE X Y X Y X Y {X Y} (from a DAY on, 0 .. 999, it has "
                + "no area, or that of 3 to 6 CORNERS;");
        SalePlaces x = fine(2, HEAD + ";bound p 0 0 0 5 0 5 5;bound p 7 none;bound p 999 0 0 1 1 2 2 3 3 4 4 5 5");
        walk.is("from the first DAY on", x.corners(0, 0), 3);
        walk.is("on the DAY ahead of another", x.corners(0, 6), 3);
        walk.is("no area", x.corners(0, 7), 0);
        walk.is("six CORNERS from the last DAY on", x.corners(0, 999), 6);
        bad(4, HEAD + ";bound p ^1000 none");
        bad(1, HEAD + ";bound p 0 0 0 5 0^");
        bad(1, HEAD + ";bound p 0 0 0 5 0 5^");
        bad(1, HEAD + ";bound p 0 0 0 5 0 5 5 1^");
        walk.says("X, Y 0 .. SIZE;");
        fine(2, HEAD + ";bound p 0 0 5 5 0 5 5");
        bad(4, HEAD + ";bound p 0 0 5 ^6 0 5 5");
        bad(4, HEAD + ";bound p 0 0 5 5 ^6 5 5");
        walk.says("a PLACE's DAYS rise;");
        fine(2, HEAD + ";bound p 7 none;bound q 3 none;bound p 8 none;bound q 4 none");
        bad(4, HEAD + ";bound p 7 none;bound q 3 none;bound p ^7 none");
        bad(4, HEAD + ";bound p 7 none;bound p ^6 none");
        walk.says("up to 16 of all)");
        String full = times(15, HEAD, ";bound p # none") + ";bound q 0 none";
        walk.is("sixteen", fine(2, full).about(4), 16);
        bad(5, full + ";^bound q 1 none");
    }

    private void ratesHolidaysCaps() {
        walk.says("rate PLACE CLASS WHOLE WHOLE (from a DAY on so much of 10,000, 0 .. 2,500; DAYS of one PLACE and "
                + "CLASS rise; up to 20)");
        SalePlaces x = fine(2, HEAD + ";rate p c 0 2500;rate p c 999 0;rate p d 0 1;rate q c 0 1");
        walk.is("from the first DAY on", x.rate(0, 0, 0), 2500);
        walk.is("on the DAY ahead of the last", x.rate(0, 0, 998), 2500);
        walk.is("from the last DAY on", x.rate(0, 0, 999), 0);
        bad(4, HEAD + ";rate p c 0 ^2501");
        bad(4, HEAD + ";rate p c ^1000 0");
        bad(4, HEAD + ";rate p c 5 0;rate p d 5 0;rate p c ^5 0");
        String full = times(20, HEAD, ";rate p c # 5");
        walk.is("twenty", fine(2, full).about(5), 20);
        bad(5, full + ";^rate q d 0 5");
        walk.says("holiday PLACE CLASS WHOLE WHOLE price WHOLE (from a DAY to one no less; PRICE, 1 .. 9,999; up to "
                + "6)");
        x = fine(2, HEAD + ";holiday p c 4 6 price 9999;holiday q c 4 4 price 1");
        int[] free = {0, 1, 1, 1, 0};
        for (int day = 3; day <= 7; day++) {
            walk.is("on " + day, x.free(0, 0, day, 9999), free[day - 3]);
            walk.is("one DAY, by 1, on " + day, x.free(1, 0, day, 1), day == 4 ? 1 : 0);
        }
        bad(4, HEAD + ";holiday p c 4 ^3 price 5");
        bad(4, HEAD + ";holiday p c 4 ^1000 price 5");
        bad(4, HEAD + ";holiday p c ^1000 1000 price 5");
        bad(4, HEAD + ";holiday p c 4 4 price ^0");
        bad(1, HEAD + ";holiday p c 4 4 price ^10000");
        full = times(6, HEAD, ";holiday p c # 9 price 5");
        walk.is("six", fine(2, full).about(6), 6);
        bad(5, full + ";^holiday q c 0 0 price 5");
        walk.says("cap PLACE CLASS WHOLE (1 .. 9,999; each two once; up to 6)");
        x = fine(2, HEAD + ";cap p c 1;cap p d 9999;cap q c 5");
        walk.is("1", x.cap(0, 0), 1);
        walk.is("9,999", x.cap(0, 1), 9999);
        bad(4, HEAD + ";cap p c ^0");
        bad(1, HEAD + ";cap p c ^10000");
        bad(3, HEAD + ";cap p c 1;cap q c 1;cap p ^c 2");
        full = times(3, HEAD, ";class @;cap p @ 5;cap q @ 5");
        walk.is("six", fine(2, full).about(7), 6);
        bad(5, full + ";^cap p c 5");
    }

    private void names() {
        walk.says("NAMES are WORDS but desk, class, place, bound, rate, holiday, cap, of, only, none;");
        for (String word : "desk class place bound rate holiday cap of only none".split(" ")) {
            bad(1, DESK + "class ^" + word);
            bad(1, HEAD + ";place ^" + word + " layer 0");
        }
        fine(2, DESK + "class size;class layers of size;place layer layer 0;place price layer 1;cap price layers 7");
        walk.says("each told once (of both sorts together), ahead of its use.");
        bad(3, HEAD + ";class ^d");
        bad(3, HEAD + ";place ^q layer 0");
        bad(3, HEAD + ";class ^p");
        bad(3, HEAD + ";place ^c layer 0");
        bad(2, HEAD + ";bound ^r 0 none;place r layer 0");
    }

    private void form() {
        walk.says("FAULTS, the first that is met from the left,");
        bad(4, HEAD + ";rate p c 0 ^2501;class c;bound x 0 none;$");
        bad(2, HEAD + ";rate p ^x 0 2501;class c");
        bad(3, HEAD + ";class ^c of x;rate p c 0 2501");
        walk.says("of one place the least number:");
        bad(1, DESK + "^");
        bad(1, HEAD + ";bound p 0 0 0 1 1 2 2 3 3 4 4 5 5 ^6 6");
        bad(1, HEAD + ";rate ^of c 0 0");
        walk.says("1 FORM: the first byte that begins no TOKEN,");
        bad(1, HEAD + ";class e^.");
        bad(1, HEAD + ";class ^\u00e9");
        bad(1, HEAD + ";rate p c ^00000 0");
        bad(1, HEAD + ";rate p c 0 0 ^holidays");
        walk.says("or TOKEN with which no DESK goes on");
        bad(1, HEAD + ";rate p ^0 c 0");
        bad(1, HEAD + ";holiday p c 0 0 ^cost 5");
        bad(1, HEAD + ";cap p c 5 ^5");
        walk.says("(the end: its place;");
        bad(1, HEAD + ";cap p c^");
        bad(1, HEAD + ";cap p c  ^");
        walk.says("a seventh CORNER, too).");
        bad(1, HEAD + ";bound p 0 0 0 1 1 2 2 3 3 4 4 5 5 ^0 0");
    }

    private void otherFaults() {
        walk.says("2 a NAME that isn't told, or of the other sort; at it.");
        bad(2, HEAD + ";cap p ^x 5");
        bad(2, HEAD + ";cap ^x c 5");
        bad(2, HEAD + ";cap p ^q 5");
        bad(2, HEAD + ";cap ^c c 5");
        walk.says("3 AGAIN: a NAME told again, at it;");
        bad(3, HEAD + ";class ^c of d");
        walk.says("a cap of the same two, at the CLASS;");
        bad(3, HEAD + ";cap q d 3;cap q ^d 3");
        walk.says("a second desk, at that WORD.");
        bad(3, HEAD + ";^desk size 5 layers 2");
        walk.says("4 a WHOLE out of bounds, a DAY that doesn't rise as told; at it.");
        bad(4, HEAD + ";place r layer ^2 only");
        bad(4, HEAD + ";bound q 9 none;bound q ^9 0 0 1 1 2 2");
        walk.says("5 MANY: a LINE more of its sort than there is room for, at its first WORD.");
        bad(5, times(4, HEAD, ";class @") + ";^class c");
        walk.says("6 LACKS: any LINE ahead of the desk; at its WORD;");
        for (String word : "class place bound rate holiday cap".split(" ")) {
            bad(6, " ^" + word + " c;" + HEAD);
        }
        walk.says("at the end: no desk, no CLASS, no PLACE.");
        bad(6, "desk size 5 layers 2^");
        bad(6, DESK + "class c^");
        bad(6, DESK + "place p layer 0  ^");
    }
}
