import java.util.NoSuchElementException;

/**
 * Term I and promises 1 to 5 at their edges: each group of checks stands for one sentence of the document,
 * which is quoted above it. A '^' in a text stands ahead of the place where the FAULT is due.
 */
public final class TextEdgesTest {
    private static final Check CHECK = new Check();
    private static final Texts TEXTS = new Texts(CHECK);
    private static final int LOW = Integer.MIN_VALUE;
    private static final int HIGH = Integer.MAX_VALUE;
    private static final String HEAD = "desk size 5 layers 2;class c;class d of c;place p layer 0;place q layer 1";
    /** A text with every sort of LINE, and with all that a LINE may leave out. */
    private static final String ALL = "desk size 5 layers 2 ; class c ; class d of c ; place p layer 0 only ; "
            + "place q layer 1 ; bound p 0 none ; bound q 1 0 0 1 0 1 1 ; bound p 2 0 0 5 0 5 5 4 4 3 4 2 4 ; "
            + "rate p c 0 5 ; holiday q d 0 9 price 5 ; cap p d 7";

    public static void main(String[] args) {
        tapeIsFull();
        bytesOfANumber();
        howManyBytesAreRead();
        faultOfTheLatest();
        placeOfAFault();
        blanks();
        words();
        wholes();
        signs();
        linesAndMarks();
        sizeAndLayers();
        classes();
        places();
        bounds();
        boundDays();
        corners();
        rates();
        holidays();
        caps();
        names();
        form();
        noTokenAnywhere();
        endAnywhere();
        unknown();
        again();
        outOfBounds();
        many();
        lacks();
        firstFromTheLeft();
        leastOfOnePlace();
        CHECK.end();
    }

    private static void bad(int number, String marked) {
        TEXTS.bad(number, marked);
    }

    private static SalePlaces fine(int places, String text) {
        return TEXTS.fine(places, text);
    }

    private static String padded(String text) {
        StringBuilder full = new StringBuilder(text);
        while (full.length() < 1200) {
            full.append(' ');
        }
        return full.toString();
    }

    // Feeds twenty blanks.
    private static int feedBlanks(SalePlaces x) {
        int blanks = 0x20202020;
        return x.feed(blanks, blanks, blanks, blanks, blanks);
    }

    // "Twenty bytes come behind THE TAPE ..: how many it has; NONE, and none comes, if there would be more
    // than 1,200."
    private static void tapeIsFull() {
        SalePlaces x = new SalePlaces();
        Check.feed(x, HEAD);
        int fed = x.size(0);
        while (fed < 1180) {
            fed += 20;
            CHECK.same("feed up to " + fed, feedBlanks(x), fed);
        }
        CHECK.same("the last twenty", feedBlanks(x), 1200);
        CHECK.same("twenty more", x.feed(LOW, LOW, LOW, LOW, LOW), -1);
        CHECK.same("and once more", x.feed(HIGH, HIGH, HIGH, HIGH, HIGH), -1);
        CHECK.same("none came", x.size(0), 1200);
        CHECK.same("a new object's trouble", x.trouble(), 0);
        CHECK.told("1,201", x, x.desk(1201), -1, 2);
        CHECK.same("a refused feed leaves trouble", x.feed(0, 0, 0, 0, 0), -1);
        CHECK.same("as it was", x.trouble(), 2);
        CHECK.told("the text is as it was fed", x, x.desk(1200), 2, 0);
        CHECK.same("it is empty then", x.size(0), 0);
        CHECK.same("room again", feedBlanks(x), 20);
    }

    // "of each number the highest first"
    private static void bytesOfANumber() {
        SalePlaces x = new SalePlaces();
        CHECK.same("desk size 7 layers 3", x.feed(0x6465736b, 0x2073697a, 0x65203720, 0x6c617965, 0x72732033), 20);
        Check.feed(x, ";class c;place p layer 2");
        CHECK.told("read", x, x.desk(44), 1, 0);
        CHECK.told("its size", x, x.about(0), 7, 0);
        for (int number : new int[] {LOW, -1, 0, HIGH}) {
            x = new SalePlaces();
            x.feed(0x20202020, 0x20202020, number, 0x20202020, 0x20202020);
            CHECK.told("bytes of " + number, x, x.desk(20), -1, 4);
            CHECK.same("bytes of " + number + ", fault", x.fault(), 1);
            CHECK.same("bytes of " + number + ", where", x.where(), 8);
        }
        for (int at = 0; at < 20; at++) {
            x = new SalePlaces();
            int[] five = {0x20202020, 0x20202020, 0x20202020, 0x20202020, 0x20202020};
            five[at / 4] ^= 1 << (24 - at % 4 * 8);
            x.feed(five[0], five[1], five[2], five[3], five[4]);
            x.desk(20);
            CHECK.same("byte " + at, x.where(), at);
        }
    }

    // "The first n bytes of THE TAPE (it is empty then) are the DESK from now on (THE BOOK empty, nothing to
    // undo): how many PLACES. NONE: 2 (THE TAPE stays); 4 (the DESK stays)."
    private static void howManyBytesAreRead() {
        SalePlaces x = new SalePlaces();
        CHECK.told("-1 of none", x, x.desk(-1), -1, 2);
        CHECK.told("1 of none", x, x.desk(1), -1, 2);
        CHECK.told("0 of none", x, x.desk(0), -1, 4);
        String text = HEAD + "                   ";
        Check.feed(x, text);
        int fed = x.size(0);
        for (int n : new int[] {LOW, -1, fed + 1, 1200, 1201, HIGH}) {
            CHECK.told("desk(" + n + ") of " + fed, x, x.desk(n), -1, 2);
            CHECK.same("THE TAPE stays", x.size(0), fed);
        }
        CHECK.told("all of it", x, x.desk(fed), 2, 0);
        CHECK.same("it is empty then", x.size(0), 0);
        CHECK.told("sale", x, x.sale(3, 0, 0, 0, 1, 1), 0, 0);
        CHECK.told("file", x, x.file(3), 0, 0);
        Check.feed(x, HEAD);
        CHECK.told("one byte less is another text", x, x.desk(HEAD.length() - 1), -1, 4);
        CHECK.same("it is empty then, too", x.size(0), 0);
        CHECK.told("the DESK stays", x, x.about(3), 2, 0);
        CHECK.told("THE BOOK, too", x, x.about(8), 1, 0);
        CHECK.told("FILINGS, too", x, x.filings(), 1, 0);
        CHECK.same("what can be undone, too", x.size(1), 2);
        CHECK.told("none of it, with a DESK", x, x.desk(0), -1, 4);
        CHECK.told("the DESK stays then, too", x, x.about(3), 2, 0);
        CHECK.told("a new DESK", x, Check.read(x, HEAD + ";place r layer 0"), 3, 0);
        CHECK.told("THE BOOK is empty", x, x.about(8), 0, 0);
        CHECK.told("no FILINGS", x, x.filings(), 0, 0);
        CHECK.same("nothing to undo", x.size(1), 0);
        CHECK.told("undo", x, x.undo() ? 1 : 0, 0, 1);
        CHECK.told("a SALE on a DAY that was FILED", x, x.sale(3, 0, 0, 0, 1, 1), 0, 0);
    }

    // "The FAULT of the latest desk() not refused by 2; 0 without one."
    private static void faultOfTheLatest() {
        SalePlaces x = new SalePlaces();
        CHECK.same("without a desk()", x.fault(), 0);
        x.desk(1);
        CHECK.same("refused by 2", x.fault(), 0);
        x.desk(0);
        CHECK.same("a FAULT", x.fault(), 1);
        x.desk(1);
        CHECK.same("refused by 2 behind it", x.fault(), 1);
        Check.read(x, HEAD + ";cap p c 0");
        CHECK.same("another FAULT", x.fault(), 4);
        x.about(0);
        CHECK.same("behind another call", x.fault(), 4);
        Check.read(x, HEAD);
        CHECK.same("without one", x.fault(), 0);
        x.desk(-1);
        CHECK.same("still without one", x.fault(), 0);
    }

    // "Its place, if the latest call that may be refused was by 4; NONE else."
    private static void placeOfAFault() {
        SalePlaces x = new SalePlaces();
        CHECK.same("of a new object", x.where(), -1);
        x.desk(0);
        CHECK.same("of the empty text", x.where(), 0);
        feedBlanks(x);
        x.fault();
        x.size(0);
        x.size(-1);
        x.trouble();
        x.where();
        throwsOfIdle(x);
        CHECK.same("behind calls that can't be refused", x.where(), 0);
        x.desk(21);
        CHECK.same("behind one refused by 2", x.where(), -1);
        x.desk(20);
        CHECK.same("at the end of twenty", x.where(), 20);
        x.about(0);
        CHECK.same("behind one refused by 1", x.where(), -1);
        Check.read(x, HEAD);
        CHECK.same("behind one that isn't refused", x.where(), -1);
        // The last byte of the longest text, and its end.
        String full = padded(HEAD);
        Check.feed(x, full.substring(0, 1199) + "$");
        x.desk(1200);
        CHECK.same("byte 1,199", x.where(), 1199);
        Check.feed(x, full.substring(0, 1199) + ";");
        x.desk(1200);
        CHECK.same("the end of 1,200", x.where(), 1200);
        x.undo();
        CHECK.same("behind undo", x.where(), -1);
    }

    private static void throwsOfIdle(SalePlaces x) {
        try {
            x.idle(0);
            CHECK.same("idle throws", 0, 1);
        } catch (NoSuchElementException e) {
            CHECK.same("idle throws", 1, 1);
        }
    }

    // "blanks, 32, part TOKENS and mean nothing else"
    private static void blanks() {
        fine(1, "   desk   size  5   layers   2  ;   class   c  ;  place  p   layer   0   ");
        fine(1, "desk size5layers2;class c;place p layer0");
        fine(1, padded("desk size 5 layers 2;class c;place p layer 0"));
        bad(1, "^de sk size 5");
        bad(1, "desk size 4 ^0 layers 2");
        bad(1, "^desksize 5");
        for (char sign : new char[] {0, 9, 10, 13, 31, 33, 127, 160}) {
            bad(1, "desk^" + sign + "size 5 layers 2;class c;place p layer 0");
        }
    }

    // "WORDS of 1 to 7 small letters that stand together"
    private static void words() {
        fine(1, "desk size 5 layers 2;class a;place z layer 0");
        fine(1, "desk size 5 layers 2;class abcdefg;place tuvwxyz layer 0");
        fine(1, "desk size 5 layers 2;class zzzzzzz;class zzzzzz of zzzzzzz;place zzzzzzy layer 0");
        bad(1, "desk size 5 layers 2;class ^abcdefgh;place p layer 0");
        bad(1, "desk size 5 layers 2;class ^abcdefghijklmnopqrstuvwxyz");
        bad(1, "desk size 5 layers 2;class abcdefg ^h");
        bad(2, "desk size 5 layers 2;class abcdefg;class b of ^abcdef");
        bad(2, "desk size 5 layers 2;class abcdefg;class b of ^abcdefh");
        bad(2, "desk size 5 layers 2;class abcdefg;class b of ^bbcdefg");
        bad(3, "desk size 5 layers 2;class abcdefg;class ^abcdefg");
        fine(1, "desk size 5 layers 2;class a;class aa;class aaa;class aaaa;class aaaaa;class aaaaaa;"
                + "place aaaaaaa layer 0");
    }

    // "WHOLES of 1 to 4 digits that do"
    private static void wholes() {
        SalePlaces x = fine(1, "desk size 0007 layers 03;class c;place p layer 0002;rate p c 0999 0012;"
                + "bound p 000 00 0000 0007 0 007 07");
        CHECK.same("0007", x.about(0), 7);
        CHECK.same("03", x.about(1), 3);
        CHECK.same("0002", x.place(0, 0), 2);
        CHECK.same("0999, 0012", x.rate(0, 0, 999), 12);
        CHECK.same("007", x.corner(0, 0, 2, 0), 7);
        bad(1, "desk size ^00007 layers 3");
        bad(1, "desk size 7 layers ^00003");
        bad(1, "desk size ^99999999999 layers 3");
        bad(1, "desk size ^4294967303 layers 3");
        bad(4, "desk size ^9999 layers 3");
        bad(1, HEAD + ";rate p c 0 ^00000");
        bad(1, HEAD + ";rate p c ^10000 0");
    }

    // "single ones of ;", and nothing but these: the bytes at either side of letters, digits and ; begin none.
    private static void signs() {
        for (char sign : new char[] {'`', '{', '/', ':', '<', 'A', 'Z', '_', '-', '+', '.', ',', 0x80, 0xa0, 0xb0,
            0xbb, 0xe1, 0xff}) {
            bad(1, "^" + sign);
            bad(1, HEAD + "^" + sign);
            bad(1, HEAD + ";^" + sign);
            bad(1, HEAD + ";class ^" + sign);
            bad(1, HEAD + ";cap p c 1^" + sign);
        }
        // A byte that begins no TOKEN, within what would be one.
        bad(1, HEAD + ";class x^Y");
        bad(1, HEAD + ";cap p c 12^.5");
    }

    // "LINE {; LINE}"
    private static void linesAndMarks() {
        bad(1, "^");
        bad(1, "^;");
        bad(1, "^;" + HEAD);
        bad(1, HEAD + ";^");
        bad(1, HEAD + ";   ^");
        bad(1, HEAD + ";^;");
        bad(1, HEAD + ";^;class x");
        bad(1, HEAD + " ^class x");
        fine(2, HEAD + " ; class x");
        fine(2, HEAD);
    }

    // "desk size WHOLE layers WHOLE (SIZE, 2 .. 40; LAYERS, 1 .. 4), ahead of all others"
    private static void sizeAndLayers() {
        String rest = ";class c;place p layer 0";
        for (int size : new int[] {2, 3, 39, 40}) {
            CHECK.same("size " + size, fine(1, "desk size " + size + " layers 1" + rest).about(0), size);
        }
        for (int size : new int[] {0, 1, 41, 42, 256, 9999}) {
            bad(4, "desk size ^" + size + " layers 1" + rest);
        }
        for (int layers = 1; layers <= 4; layers++) {
            CHECK.same("layers " + layers, fine(1, "desk size 2 layers " + layers + rest).about(1), layers);
        }
        for (int layers : new int[] {0, 5, 6, 257, 9999}) {
            bad(4, "desk size 2 layers ^" + layers + rest);
        }
        bad(1, "desk ^5 layers 1");
        bad(1, "desk size ^layers 1");
        bad(1, "desk size 5 ^1");
        bad(1, "desk size 5 layers^");
        bad(1, "desk ^layers 1 size 5");
    }

    // "class NAME [of CLASS] (a CLASS, numbered from 0, up to 6; it is of one told ahead)"
    private static void classes() {
        String desk = "desk size 5 layers 2;place p layer 0";
        SalePlaces x = fine(1, desk + ";class a");
        CHECK.same("one class", x.about(2), 1);
        CHECK.told("numbered from 0", x, x.above(0), -2, 0);
        CHECK.told("the only one", x, x.above(1), -1, 1);
        String six = desk + ";class a;class b of a;class c of b;class d of c;class e of d;class f of e";
        x = fine(1, six);
        CHECK.same("six classes", x.about(2), 6);
        CHECK.told("the first", x, x.above(0), -2, 0);
        CHECK.told("the last", x, x.above(5), 4, 0);
        CHECK.told("none behind it", x, x.above(6), -1, 1);
        bad(5, six + ";^class g");
        bad(5, six + ";^class g of a");
        bad(2, desk + ";class a of ^a");
        bad(2, desk + ";class a of ^b;class b");
        bad(2, desk + ";class a;class b of ^p");
        bad(1, desk + ";class a;class b of^");
        bad(1, desk + ";class a;class b of ^;");
        bad(1, desk + ";class a;class b of a ^of a");
    }

    // "place NAME layer WHOLE [only] (a PLACE, numbered from 0, up to 10; its LAYER, 0 .. LAYERS - 1; ONLY)"
    private static void places() {
        for (int layers = 1; layers <= 4; layers++) {
            String desk = "desk size 5 layers " + layers + ";class c;place ";
            CHECK.same("the first layer", fine(1, desk + "p layer 0").place(0, 0), 0);
            SalePlaces x = fine(1, desk + "p layer " + (layers - 1) + " only");
            CHECK.same("the last layer", x.place(0, 0), layers - 1);
            CHECK.same("only", x.place(0, 1), 1);
            bad(4, desk + "p layer ^" + layers);
            bad(4, desk + "p layer ^9999 only");
        }
        StringBuilder text = new StringBuilder("desk size 5 layers 2;class c");
        for (char p = 'd'; p < 'n'; p++) {
            text.append(";place ").append(p).append(" layer ").append(p % 2).append(p == 'm' ? " only" : "");
        }
        SalePlaces x = fine(10, text.toString());
        CHECK.told("the tenth", x, x.place(9, 1), 1, 0);
        CHECK.told("none behind it", x, x.place(10, 1), -1, 1);
        bad(5, text + ";^place n layer 0");
        bad(1, "desk size 5 layers 2;class c;place p ^only");
        bad(1, "desk size 5 layers 2;class c;place p layer 1 ^none");
    }

    // "up to 16 of all"
    private static void bounds() {
        StringBuilder text = new StringBuilder(HEAD);
        for (int k = 0; k < 16; k++) {
            text.append(";bound ").append(k % 2 == 0 ? 'p' : 'q').append(' ').append(k)
                    .append(k % 3 == 0 ? " none" : " 0 0 5 0 5 5");
        }
        SalePlaces x = fine(2, text.toString());
        CHECK.same("sixteen", x.about(4), 16);
        CHECK.same("eight of one", x.place(0, 2), 8);
        CHECK.same("eight of the other", x.place(1, 2), 8);
        bad(5, text + ";^bound p 99 none");
        bad(5, text + ";^bound q 99 0 0 1 1 2 0");
        CHECK.same("none told", fine(2, HEAD).about(4), 0);
    }

    // "from a DAY on, 0 .. 999, it has no area", "a PLACE's DAYS rise"
    private static void boundDays() {
        fine(2, HEAD + ";bound p 0 none;bound p 999 none");
        bad(4, HEAD + ";bound p ^1000 none");
        bad(4, HEAD + ";bound p ^9999 none");
        fine(2, HEAD + ";bound p 5 none;bound p 6 none;bound q 0 none;bound p 7 none;bound q 1 none");
        bad(4, HEAD + ";bound p 5 none;bound p ^5 none");
        bad(4, HEAD + ";bound p 5 none;bound p ^4 none");
        bad(4, HEAD + ";bound p 0 none;bound p ^0 none");
        bad(4, HEAD + ";bound p 999 none;bound p ^999 none");
        bad(4, HEAD + ";bound p 999 none;bound p ^1000 none");
        bad(4, HEAD + ";bound p 5 none;bound p 9 none;bound p ^7 none");
        bad(4, HEAD + ";bound p 5 0 0 1 1 2 0;bound q 9 none;bound p ^5 none");
    }

    // "or that of 3 to 6 CORNERS; X, Y 0 .. SIZE"
    private static void corners() {
        String begin = HEAD + ";bound p 0 ";
        bad(1, begin + "^");
        bad(1, begin + "1^");
        bad(1, begin + "1 1^");
        bad(1, begin + "1 1 2 2^");
        bad(1, begin + "1 1 2 2 3^");
        bad(1, begin + "1 1 2 2^;bound p 1 none");
        bad(1, begin + "1 1 2 2 ^none");
        String corners = "1 1 2 2";
        for (int many = 3; many <= 6; many++) {
            corners = corners + " 3 " + (many - 3);
            CHECK.same("corners", fine(2, begin + corners).corners(0, 0), many);
            if (many < 6) {
                bad(1, begin + corners + " 4^");
                bad(1, begin + corners + " 4^;");
            }
            bad(1, begin + corners + " ^none");
        }
        bad(1, begin + corners + " ^4 4");
        bad(1, begin + corners + " ^4");
        bad(1, begin + corners + " ^6 6");
        for (int size : new int[] {2, 40}) {
            String desk = "desk size " + size + " layers 1;class c;place p layer 0;bound p 0 ";
            SalePlaces x = fine(1, desk + "0 0 " + size + " 0 0 " + size);
            CHECK.same("x up to SIZE", x.corner(0, 0, 1, 0), size);
            CHECK.same("y up to SIZE", x.corner(0, 0, 2, 1), size);
            bad(4, desk + "^" + (size + 1) + " 0 0 0 1 1");
            bad(4, desk + "0 ^" + (size + 1) + " 0 0 1 1");
            bad(4, desk + "0 0 1 1 0 ^" + (size + 1));
            bad(4, desk + "0 0 1 1 0 2 2 2 2 0 ^" + (size + 1) + " 0");
            bad(4, desk + "0 0 1 1 0 2 2 2 2 0 0 ^9999");
        }
    }

    // "rate PLACE CLASS WHOLE WHOLE (from a DAY on so much of 10,000, 0 .. 2,500; DAYS of one PLACE and CLASS
    // rise; up to 20)"
    private static void rates() {
        SalePlaces x = fine(2, HEAD + ";rate p c 0 0;rate p c 1 2500;rate p c 999 1");
        CHECK.same("0", x.rate(0, 0, 0), 0);
        CHECK.same("2,500", x.rate(0, 0, 1), 2500);
        CHECK.same("from day 999", x.rate(0, 0, 999), 1);
        bad(4, HEAD + ";rate p c 0 ^2501");
        bad(4, HEAD + ";rate p c 0 ^9999");
        bad(4, HEAD + ";rate p c ^1000 0");
        fine(2, HEAD + ";rate p c 5 0;rate p c 6 0;rate p d 5 0;rate q c 5 0;rate q d 4 0;rate p d 6 0");
        bad(4, HEAD + ";rate p c 5 0;rate p c ^5 0");
        bad(4, HEAD + ";rate p c 5 0;rate p c ^4 0");
        bad(4, HEAD + ";rate p c 999 0;rate p c ^999 0");
        bad(4, HEAD + ";rate p c 5 0;rate q d 9 0;rate p c ^5 0");
        StringBuilder text = new StringBuilder(HEAD);
        for (int k = 0; k < 20; k++) {
            String two = (k % 2 == 0 ? "p" : "q") + (k % 4 < 2 ? " c " : " d ");
            text.append(";rate ").append(two).append(k).append(" 9");
        }
        CHECK.same("twenty", fine(2, text.toString()).about(5), 20);
        bad(5, text + ";^rate p c 99 9");
        bad(5, text + ";^rate p d 0 9999");
    }

    // "holiday PLACE CLASS WHOLE WHOLE price WHOLE (from a DAY to one no less; PRICE, 1 .. 9,999; up to 6)"
    private static void holidays() {
        SalePlaces x = fine(2, HEAD + ";holiday p c 0 0 price 1;holiday p c 999 999 price 9999");
        CHECK.told("one day", x, x.free(0, 0, 0, 1), 1, 0);
        CHECK.told("the last day, the dearest", x, x.free(0, 0, 999, 9999), 1, 0);
        bad(4, HEAD + ";holiday p c ^1000 1000 price 1");
        bad(4, HEAD + ";holiday p c 0 ^1000 price 1");
        bad(4, HEAD + ";holiday p c 5 ^4 price 1");
        bad(4, HEAD + ";holiday p c 999 ^998 price 1");
        bad(4, HEAD + ";holiday p c 5 5 price ^0");
        bad(1, HEAD + ";holiday p c 5 5 price ^10000");
        // Their DAYS needn't rise, and the same may be told again.
        StringBuilder text = new StringBuilder(HEAD);
        for (int k = 6; k > 0; k--) {
            text.append(";holiday p c ").append(k / 2).append(" 9 price 5");
        }
        CHECK.same("six", fine(2, text.toString()).about(6), 6);
        bad(5, text + ";^holiday q d 0 0 price 1");
    }

    // "cap PLACE CLASS WHOLE (1 .. 9,999; each two once; up to 6)"
    private static void caps() {
        SalePlaces x = fine(2, HEAD + ";cap p c 1;cap p d 9999");
        CHECK.same("1", x.cap(0, 0), 1);
        CHECK.same("9,999", x.cap(0, 1), 9999);
        bad(4, HEAD + ";cap p c ^0");
        bad(1, HEAD + ";cap p c ^10000");
        String head = HEAD + ";class e;class f";
        bad(3, head + ";cap p c 5;cap p ^c 5");
        bad(3, head + ";cap p c 5;cap q c 5;cap p d 5;cap p ^c 6");
        String six = head + ";cap p c 5;cap p d 5;cap q c 5;cap q d 5;cap p e 5;cap q e 5";
        CHECK.same("six", fine(2, six).about(7), 6);
        bad(5, six + ";^cap p f 5");
        bad(5, six + ";^cap p c 5");
    }

    // "NAMES are WORDS but desk, class, place, bound, rate, holiday, cap, of, only, none; each told once (of
    // both sorts together), ahead of its use."
    private static void names() {
        String desk = "desk size 5 layers 2;";
        for (String word : "desk class place bound rate holiday cap of only none".split(" ")) {
            bad(1, desk + "class ^" + word);
            bad(1, desk + "place ^" + word + " layer 0");
            bad(1, HEAD + ";class x of ^" + word);
            bad(1, HEAD + ";bound ^" + word + " 0 none");
            bad(1, HEAD + ";rate ^" + word + " c 0 0");
            bad(1, HEAD + ";rate p ^" + word + " 0 0");
            bad(1, HEAD + ";holiday p ^" + word + " 0 0 price 1");
            bad(1, HEAD + ";cap p ^" + word + " 1");
            // One letter less or more is a NAME.
            fine(1, desk + "class " + word.substring(1) + "x;place p layer 0");
            fine(1, desk + "class c;place " + word.substring(0, word.length() - 1) + " layer 0");
            if (word.length() < 7) {
                fine(1, desk + "class " + word + "s;place s" + word + " layer 0");
            }
        }
        for (String word : "size layers layer price a".split(" ")) {
            fine(1, desk + "class " + word + ";place p layer 0;cap p " + word + " 5");
            fine(1, desk + "class c;place " + word + " layer 0;bound " + word + " 0 none");
        }
        fine(1, desk + "class size;class layers;class layer;class price;place p layer 0 only;"
                + "holiday p price 0 1 price 5");
        bad(3, desk + "class x;class ^x");
        bad(3, desk + "class x;place ^x layer 0");
        bad(3, desk + "place x layer 0;class ^x");
        bad(3, desk + "place x layer 0;place ^x layer 1");
        bad(2, desk + "class c;place p layer 0;rate ^q c 0 0;place q layer 0");
        bad(2, desk + "place p layer 0;cap p ^c 5;class c");
    }

    // "1 FORM: the first byte that begins no TOKEN, or TOKEN with which no DESK goes on (the end: its place; a
    // seventh CORNER, too)."
    private static void form() {
        // Each text ends ahead of one of the TOKENS that a LINE needs; blanks behind it are ahead of its end.
        for (String line : new String[] {"class", "class x of", "place", "place x", "place x layer", "bound", "bound p",
            "bound p 0", "rate", "rate p", "rate p c", "rate p c 0", "holiday", "holiday p", "holiday p c",
            "holiday p c 0", "holiday p c 0 0", "holiday p c 0 0 price", "cap", "cap p", "cap p c"}) {
            bad(1, HEAD + ";" + line + "^");
            bad(1, HEAD + ";" + line + "  ^");
            bad(1, HEAD + ";" + line + "^;class y");
        }
        // Another TOKEN behind a whole LINE.
        for (String line : new String[] {"class x", "class x of c", "place x layer 0 only", "bound p 0 none",
            "rate p c 0 0", "holiday p c 0 0 price 1", "cap p c 1"}) {
            fine(line.startsWith("place") ? 3 : 2, HEAD + ";" + line);
            bad(1, HEAD + ";" + line + " ^0");
            bad(1, HEAD + ";" + line + " ^x");
            bad(1, HEAD + ";" + line + " ^desk");
        }
        // A WORD where a WHOLE is due, a WHOLE where a WORD is.
        bad(1, HEAD + ";rate p c ^d 0");
        bad(1, HEAD + ";rate p c 0 ^d");
        bad(1, HEAD + ";rate ^0 c 0 0");
        bad(1, HEAD + ";rate p ^0 0 0");
        bad(1, HEAD + ";bound p ^p none");
        bad(1, HEAD + ";bound p 0 ^p");
        bad(1, HEAD + ";bound p 0 0 ^p");
        bad(1, HEAD + ";holiday p c 0 0 ^5");
        bad(1, HEAD + ";holiday p c 0 0 ^cost 5");
        bad(1, HEAD + ";^tax p c 0");
        bad(1, HEAD + ";^none");
        bad(1, HEAD + ";^5");
    }

    // "1 FORM: the first byte that begins no TOKEN": ahead of each TOKEN, and at the end; more than 7 letters or 4
    // digits begin none, either, and are no ; if one is due there.
    private static void noTokenAnywhere() {
        fine(2, ALL);
        for (String sign : new String[] {"$", "abcdefgh", "desksize", "00000", "12345", "99999999999999999999"}) {
            for (int at = 0; at < ALL.length(); at++) {
                if (at == 0 || ALL.charAt(at - 1) == ' ') {
                    bad(1, ALL.substring(0, at) + "^" + sign + " " + ALL.substring(at));
                }
            }
            bad(1, ALL + " ^" + sign);
            bad(1, HEAD + " ^" + sign + " class x");
            bad(1, HEAD + ";class x ^" + sign + " class y");
        }
    }

    // "TOKEN with which no DESK goes on (the end: its place": behind each TOKEN; a text may end with a LINE, if a
    // CLASS and a PLACE are told.
    private static void endAnywhere() {
        String[] tokens = ALL.split(" ");
        StringBuilder text = new StringBuilder();
        for (int many = 0; many < tokens.length; many++) {
            String told = text.toString().trim();
            if (mayEnd(told)) {
                fine(told.contains("place q") ? 2 : 1, told);
            } else {
                bad(lacksSome(told) ? 6 : 1, told + "^");
                bad(lacksSome(told) ? 6 : 1, told + "   ^");
            }
            text.append(' ').append(tokens[many]);
        }
    }

    private static boolean isWholeLine(String told) {
        String line = told.substring(told.lastIndexOf(';') + 1).trim();
        return line.matches("desk size 5 layers 2|class .( of .)?|place . layer .( only)?|bound . . none"
                + "|bound . .( . .){3,6}|rate . . . .|holiday . . . . price .|cap . . .");
    }

    private static boolean mayEnd(String told) {
        return isWholeLine(told) && !lacksSome(told);
    }

    private static boolean lacksSome(String told) {
        return isWholeLine(told) && !(told.contains("class c") && told.contains("place p layer 0"));
    }

    // "2 a NAME that isn't told, or of the other sort; at it."
    private static void unknown() {
        for (String line : new String[] {"class x of ^?", "bound ^? 0 none", "rate ^? c 0 0", "rate p ^? 0 0",
            "holiday ^? c 0 0 price 1", "holiday p ^? 0 0 price 1", "cap ^? c 1", "cap p ^? 1"}) {
            bad(2, HEAD + ";" + line.replace("?", "y"));
            bad(2, HEAD + ";" + line.replace("?", "x"));
            boolean ofPlaces = line.contains("^? c") || line.startsWith("bound");
            bad(2, HEAD + ";" + line.replace("?", ofPlaces ? "d" : "q"));
        }
    }

    // "3 AGAIN: a NAME told again, at it; a cap of the same two, at the CLASS; a second desk, at that WORD."
    private static void again() {
        bad(3, HEAD + ";class ^c");
        bad(3, HEAD + ";class ^d of c");
        bad(3, HEAD + ";class ^p");
        bad(3, HEAD + ";place ^q layer 1");
        bad(3, HEAD + ";place ^c");
        bad(3, HEAD + ";cap q d 3;cap q ^d 3");
        bad(3, HEAD + ";cap q d 3;cap q ^d");
        bad(3, HEAD + ";^desk size 5 layers 2");
        bad(3, HEAD + ";^desk");
        bad(3, "desk size 5 layers 2;^desk size 5 layers 2");
    }

    // "4 a WHOLE out of bounds, a DAY that doesn't rise as told; at it."
    private static void outOfBounds() {
        bad(4, "desk size ^1");
        bad(4, "desk size 40 layers ^5;");
        bad(4, HEAD + ";place x layer ^2");
        bad(4, HEAD + ";bound p ^1000");
        bad(4, HEAD + ";bound p 0 0 0 0 0 0 ^6");
        bad(4, HEAD + ";rate p c 0 ^2501 5");
        bad(4, HEAD + ";holiday p c 9 ^8");
        bad(4, HEAD + ";holiday p c 9 9 price ^0 5");
        bad(4, HEAD + ";cap p c ^0 5");
    }

    // "5 MANY: a LINE more of its sort than there is room for, at its first WORD."
    private static void many() {
        StringBuilder text = new StringBuilder(HEAD + ";class e;class f;class g;class h");
        for (int k = 0; k < 8; k++) {
            text.append(";place ").append((char) ('r' + k)).append(" layer 0");
        }
        for (int k = 0; k < 16; k++) {
            text.append(";bound p ").append(k).append(" none");
        }
        for (int k = 0; k < 20; k++) {
            text.append(";rate p c ").append(k).append(" 5");
        }
        for (int k = 0; k < 6; k++) {
            text.append(";holiday p c 0 0 price 1;cap ").append((char) ('r' + k)).append(" c 1");
        }
        // All rows full at once: each LINE more is refused at its first WORD, whatever is behind it.
        SalePlaces x = fine(10, text.toString());
        int[] due = {5, 2, 6, 10, 16, 20, 6, 6, 0};
        for (int what = 0; what < due.length; what++) {
            CHECK.told("about(" + what + ") of a full DESK", x, x.about(what), due[what], 0);
        }
        for (String word : "class place bound rate holiday cap".split(" ")) {
            bad(5, text + ";^" + word);
            bad(5, text + " ; ^" + word + " 5 $");
        }
    }

    // "6 LACKS: any LINE ahead of the desk; at its WORD; at the end: no desk, no CLASS, no PLACE."
    private static void lacks() {
        for (String word : "class place bound rate holiday cap".split(" ")) {
            bad(6, "^" + word);
            bad(6, "  ^" + word + " $");
            bad(6, "^" + word + " c;" + HEAD);
        }
        bad(6, "desk size 5 layers 2^");
        bad(6, "desk size 5 layers 2;class c^");
        bad(6, "desk size 5 layers 2;place p layer 0^");
        bad(6, "desk size 5 layers 2;place p layer 0;bound p 0 none   ^");
        bad(6, padded("desk size 5 layers 2;class c") + "^");
    }

    // "FAULTS, the first that is met from the left"
    private static void firstFromTheLeft() {
        bad(4, "desk size ^41 layers 0;$");
        bad(6, "^class c;desk size 41 layers 9");
        bad(2, HEAD + ";rate ^x y 1000 9999");
        bad(2, HEAD + ";rate p ^y 1000 9999");
        bad(4, HEAD + ";rate p c ^1000 9999");
        bad(4, HEAD + ";rate p c 0 ^9999;class c");
        bad(3, HEAD + ";class ^c of x;desk");
        bad(3, HEAD + ";cap p c 5;cap p ^c 0");
        bad(4, HEAD + ";bound p 0 ^6 6 6 6 6 6 6 6 6 6 6 6 6 6");
        bad(1, HEAD + ";^x;class c");
    }

    // "of one place the least number"
    private static void leastOfOnePlace() {
        // At the end: no LINE goes on there (1), and no desk, CLASS or PLACE is told (6).
        bad(1, "^");
        bad(1, "desk^");
        bad(1, "desk size 5 layers 2;^");
        bad(1, "desk size 5 layers 2;class c;place p^");
        // A seventh CORNER (1) whose X is out of bounds (4).
        bad(1, HEAD + ";bound p 0 0 0 1 1 2 2 3 3 4 4 5 5 ^6 0");
        // A WORD that is no NAME (1) and isn't told (2).
        bad(1, HEAD + ";bound ^of 0 none");
        // A WHOLE of five digits begins no TOKEN (1), and is out of bounds (4).
        bad(1, HEAD + ";cap p c ^99999");
        // A second desk (3), for which there is no room (5).
        bad(3, HEAD + ";^desk size 9 layers 1");
    }
}
