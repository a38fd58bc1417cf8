/** Texts of DESKS that several tests read. */
final class Desks {
    /**
     * CLASSES 0 all, 1 food (of all), 2 wine (of food), 3 book. PLACES 0 st, 1 ci, 2 cj (from day 5, half
     * of it also ci's), 3 fr (only, from day 10), 4 me (up to day 29), 5 no (never a bound).
     */
    static final String CITY = "desk size 20 layers 3;class all;class food of all;class wine of food;class book;"
            + "place st layer 0;place ci layer 1;place cj layer 1;place fr layer 1 only;place me layer 2;"
            + "place no layer 2;"
            + "bound st 0 0 0 20 0 20 20 0 20;bound ci 0 0 0 10 0 10 10 0 10;bound cj 5 5 0 15 0 15 10 5 10;"
            + "bound fr 10 0 10 10 10 10 20 0 20;bound me 0 0 0 20 0 20 20 0 20;bound me 30 none;"
            + "rate st all 0 500;rate st food 5 100;rate ci all 0 200;rate cj all 0 250;rate fr all 0 1000;"
            + "rate me wine 0 75;holiday st food 20 25 price 50;cap ci all 300;cap ci wine 40";

    /** Two triangles at either side of a slope, the second one away on days 3 to 5. */
    static final String SLOPE = "desk size 10 layers 1;class c;place p layer 0;place q layer 0;"
            + "bound p 0 0 0 10 10 0 10;bound q 0 0 0 10 0 10 10;bound q 3 none;bound q 6 2 2 8 2 8 8 2 8;"
            + "rate p c 0 33;rate q c 0 77";

    /** One PLACE over all, a tenth for the one CLASS; a second PLACE above it, a twentieth. */
    static final String PLAIN = "desk size 4 layers 2;class c;class d;place p layer 0;place q layer 1;"
            + "bound p 0 0 0 4 0 4 4 0 4;bound q 0 0 0 2 0 2 4 0 4;rate p c 0 1000;rate p d 0 1000;rate q c 0 500";

    private Desks() {
    }
}
