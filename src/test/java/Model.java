import java.math.BigInteger;
import java.util.ArrayList;
import java.util.Arrays;
import java.util.LinkedHashMap;
import java.util.List;
import java.util.NoSuchElementException;
import java.util.TreeMap;

/**
 * The document said a second time, as naively as can be, for comparing: every answer is worked out
 * anew from lists, and UNDO puts a whole former state back.
 */
public final class Model {
    static final int FAR = Integer.MIN_VALUE;

    static final class Refused extends RuntimeException {
        final int number;

        Refused(int number) {
            super(null, null, false, false);
            this.number = number;
        }
    }

    static final class Fault extends RuntimeException {
        final int number;
        final int place;

        Fault(int number, int place) {
            super(null, null, false, false);
            this.number = number;
            this.place = place;
        }
    }

    record Token(char kind, String text, int place) {
        int whole() {
            return Integer.parseInt(text);
        }
    }

    record Bound(int place, int day, int[] xy) {
    }

    record Rate(int place, int good, int day, int rate) {
    }

    record Holiday(int place, int good, int from, int till, int price) {
    }

    record Place(int layer, boolean only) {
    }

    record Part(int place, int rate, int cap, boolean free, int price) {
        int base(int units) {
            return free ? 0 : units * (cap == -2 || price < cap ? price : cap);
        }

        int tax(int units) {
            BigInteger twice = BigInteger.valueOf(base(units)).multiply(BigInteger.valueOf(2L * rate));
            return twice.add(BigInteger.valueOf(10000)).divide(BigInteger.valueOf(20000)).intValueExact();
        }
    }

    record Sale(int day, int x, int y, int good, int units, int price, List<Part> parts, int left,
            boolean filed) {
        int tax() {
            int sum = 0;
            for (Part part : parts) {
                sum += part.tax(left);
            }
            return sum;
        }

        Sale with(int newLeft, boolean newFiled) {
            return new Sale(day, x, y, good, units, price, parts, newLeft, newFiled);
        }
    }

    record Filing(int day, int lines, TreeMap<Integer, Integer> pays) {
    }

    static final class State {
        int size;
        int layers;
        List<Integer> classes = new ArrayList<>();
        List<Place> places = new ArrayList<>();
        List<Bound> bounds = new ArrayList<>();
        List<Rate> rates = new ArrayList<>();
        List<Holiday> holidays = new ArrayList<>();
        LinkedHashMap<String, Integer> caps = new LinkedHashMap<>();
        List<Sale> book = new ArrayList<>();
        List<Filing> filings = new ArrayList<>();
        // What REFUNDS of FILED LINES made less since the latest FILING, by PLACE.
        TreeMap<Integer, Integer> less = new TreeMap<>();

        State copy() {
            State s = new State();
            s.size = size;
            s.layers = layers;
            s.classes = new ArrayList<>(classes);
            s.places = new ArrayList<>(places);
            s.bounds = new ArrayList<>(bounds);
            s.rates = new ArrayList<>(rates);
            s.holidays = new ArrayList<>(holidays);
            s.caps = new LinkedHashMap<>(caps);
            s.book = new ArrayList<>(book);
            s.filings = new ArrayList<>(filings);
            s.less = new TreeMap<>(less);
            return s;
        }
    }

    private final StringBuilder tape = new StringBuilder();
    private State s;
    private List<State> former = new ArrayList<>();
    private int trouble;
    private int fault;
    private int faultPlace;

    // ---- the text

    static List<Token> tokens(String text) {
        List<Token> list = new ArrayList<>();
        java.util.regex.Matcher m = java.util.regex.Pattern.compile(" +|[a-z]+|[0-9]+|;|[^ ]").matcher("");
        m.reset(text);
        int at = 0;
        while (at < text.length()) {
            if (!m.find(at) || m.start() != at) {
                list.add(new Token('?', "", at));
                return list;
            }
            String part = m.group();
            char first = part.charAt(0);
            if (first >= 'a' && first <= 'z' && part.length() <= 7) {
                list.add(new Token('w', part, at));
            } else if (first >= '0' && first <= '9' && part.length() <= 4) {
                list.add(new Token('n', part, at));
            } else if (first == ';') {
                list.add(new Token(';', part, at));
            } else if (first != ' ') {
                list.add(new Token('?', part, at));
                return list;
            }
            at = m.end();
        }
        list.add(new Token('$', "", text.length()));
        return list;
    }

    static final List<String> RESERVED = Arrays.asList("desk", "class", "place", "bound", "rate",
            "holiday", "cap", "of", "only", "none");

    static final class Parse {
        final List<Token> tokens;
        int i;
        final State s = new State();
        final List<String> classNames = new ArrayList<>();
        final List<String> placeNames = new ArrayList<>();

        Parse(String text) {
            tokens = tokens(text);
        }

        Token peek() {
            return tokens.get(i);
        }

        boolean at(String word) {
            return peek().kind == 'w' && peek().text.equals(word);
        }

        void word(String word) {
            need(at(word), 1);
            i++;
        }

        void need(boolean so, int number) {
            if (!so) {
                throw new Fault(number, peek().place);
            }
        }

        int whole(int least, int most) {
            need(peek().kind == 'n', 1);
            need(peek().whole() >= least && peek().whole() <= most, 4);
            return tokens.get(i++).whole();
        }

        String name() {
            need(peek().kind == 'w' && !RESERVED.contains(peek().text), 1);
            return peek().text;
        }

        String newName() {
            String name = name();
            need(!classNames.contains(name) && !placeNames.contains(name), 3);
            i++;
            return name;
        }

        int oldName(List<String> names) {
            String name = name();
            need(names.contains(name), 2);
            i++;
            return names.indexOf(name);
        }

        void line() {
            String first = peek().kind == 'w' ? peek().text : "";
            need(RESERVED.subList(0, 7).contains(first), 1);
            boolean desk = first.equals("desk");
            need(!desk || s.size == 0, 3);
            int[] counts = {0, s.classes.size(), s.places.size(), s.bounds.size(), s.rates.size(),
                s.holidays.size(), s.caps.size()};
            int[] rooms = {1, 6, 10, 16, 20, 6, 6};
            int sort = RESERVED.indexOf(first);
            need(counts[sort] < rooms[sort], 5);
            need(desk || s.size > 0, 6);
            i++;
            switch (first) {
                case "desk" -> {
                    word("size");
                    int size = whole(2, 40);
                    word("layers");
                    s.layers = whole(1, 4);
                    s.size = size;
                }
                case "class" -> {
                    String name = newName();
                    int of = -2;
                    if (at("of")) {
                        i++;
                        of = oldName(classNames);
                    }
                    classNames.add(name);
                    s.classes.add(of);
                }
                case "place" -> {
                    String name = newName();
                    word("layer");
                    int layer = whole(0, s.layers - 1);
                    boolean only = at("only");
                    if (only) {
                        i++;
                    }
                    placeNames.add(name);
                    s.places.add(new Place(layer, only));
                }
                case "bound" -> bound();
                case "rate" -> {
                    int p = oldName(placeNames);
                    int c = oldName(classNames);
                    int least = 0;
                    for (Rate r : s.rates) {
                        if (r.place == p && r.good == c) {
                            least = Math.max(least, r.day + 1);
                        }
                    }
                    int day = whole(least, 999);
                    s.rates.add(new Rate(p, c, day, whole(0, 2500)));
                }
                case "holiday" -> {
                    int p = oldName(placeNames);
                    int c = oldName(classNames);
                    int from = whole(0, 999);
                    int till = whole(from, 999);
                    word("price");
                    s.holidays.add(new Holiday(p, c, from, till, whole(1, 9999)));
                }
                default -> {
                    int p = oldName(placeNames);
                    int c = oldName(classNames);
                    i--;
                    need(!s.caps.containsKey(p + " " + c), 3);
                    i++;
                    s.caps.put(p + " " + c, whole(1, 9999));
                }
            }
        }

        void bound() {
            int p = oldName(placeNames);
            int least = 0;
            for (Bound b : s.bounds) {
                if (b.place == p) {
                    least = Math.max(least, b.day + 1);
                }
            }
            int day = whole(least, 999);
            List<Integer> xy = new ArrayList<>();
            if (at("none")) {
                i++;
            } else {
                for (int k = 0; k < 6; k++) {
                    xy.add(whole(0, s.size));
                }
                while (peek().kind == 'n' && xy.size() < 12) {
                    xy.add(whole(0, s.size));
                    xy.add(whole(0, s.size));
                }
            }
            s.bounds.add(new Bound(p, day, xy.stream().mapToInt(v -> v).toArray()));
        }

        State all() {
            line();
            while (peek().kind == ';') {
                i++;
                line();
            }
            need(peek().kind == '$', 1);
            need(!s.classes.isEmpty() && !s.places.isEmpty(), 6);
            return s;
        }
    }

    // ---- refusals

    private void need(boolean so, int number) {
        if (!so) {
            throw new Refused(number);
        }
    }

    private void open() {
        need(s != null, 1);
    }

    private void isPlace(int p) {
        open();
        need(p >= 0 && p < s.places.size(), 1);
    }

    private void isClass(int c) {
        open();
        need(c >= 0 && c < s.classes.size(), 1);
    }

    private void in(int v, int least, int most, int number) {
        need(v >= least && v <= most, number);
    }

    private void isDay(int day) {
        in(day, 0, 999, 2);
    }

    private void isPoint(int x, int y) {
        in(x, 0, s.size, 2);
        in(y, 0, s.size, 2);
    }

    interface Body {
        int get();
    }

    private int ask(int refusal, Body body) {
        try {
            int answer = body.get();
            trouble = 0;
            return answer;
        } catch (Refused r) {
            trouble = r.number;
            return refusal;
        }
    }

    private void act() {
        former.add(s.copy());
        if (former.size() > 8) {
            former.remove(0);
        }
    }

    // ---- geometry

    private int[] xy(int p, int day) {
        int[] best = new int[0];
        int latest = -1;
        for (Bound b : s.bounds) {
            if (b.place == p && b.day <= day && b.day > latest) {
                latest = b.day;
                best = b.xy;
            }
        }
        return best;
    }

    private boolean isIn(int p, int day, int x, int y) {
        int[] c = xy(p, day);
        int n = c.length / 2;
        int crossed = 0;
        for (int i = 0; i < n; i++) {
            int j = (i + 1) % n;
            int ax = c[2 * i];
            int ay = c[2 * i + 1];
            int bx = c[2 * j];
            int by = c[2 * j + 1];
            if (ay > by) {
                int t = ax;
                ax = bx;
                bx = t;
                t = ay;
                ay = by;
                by = t;
            }
            if (by > y && ay <= y) {
                // The X at Y is ax + (y - ay) (bx - ax) / (by - ay), and by - ay is above 0.
                BigInteger left = BigInteger.valueOf((long) ax * (by - ay) + (long) (y - ay) * (bx - ax));
                if (left.compareTo(BigInteger.valueOf((long) x * (by - ay))) > 0) {
                    crossed++;
                }
            }
        }
        return crossed % 2 == 1;
    }

    private int settledAt(int layer, int day, int x, int y) {
        for (int p = 0; p < s.places.size(); p++) {
            if (s.places.get(p).layer == layer && isIn(p, day, x, y)) {
                return p;
            }
        }
        return -2;
    }

    private List<Integer> stackOf(int day, int x, int y) {
        List<Integer> list = new ArrayList<>();
        for (int layer = 0; layer < s.layers; layer++) {
            int p = settledAt(layer, day, x, y);
            if (p != -2) {
                list.add(p);
                if (s.places.get(p).only) {
                    break;
                }
            }
        }
        return list;
    }

    private List<Integer> chain(int c) {
        List<Integer> list = new ArrayList<>();
        for (int k = c; k != -2; k = s.classes.get(k)) {
            list.add(k);
        }
        return list;
    }

    private int rateOf(int p, int c, int day) {
        for (int k : chain(c)) {
            int latest = -1;
            int rate = 0;
            for (Rate r : s.rates) {
                if (r.place == p && r.good == k && r.day <= day && r.day > latest) {
                    latest = r.day;
                    rate = r.rate;
                }
            }
            if (latest >= 0) {
                return rate;
            }
        }
        return 0;
    }

    private boolean isFree(int p, int c, int day, int price) {
        for (Holiday h : s.holidays) {
            if (h.place == p && day >= h.from && day <= h.till && price <= h.price
                    && chain(c).contains(h.good)) {
                return true;
            }
        }
        return false;
    }

    private int capOf(int p, int c) {
        for (int k : chain(c)) {
            Integer cap = s.caps.get(p + " " + k);
            if (cap != null) {
                return cap;
            }
        }
        return -2;
    }

    private List<Part> partsOf(int day, int x, int y, int c, int price) {
        List<Part> parts = new ArrayList<>();
        for (int p : stackOf(day, x, y)) {
            parts.add(new Part(p, rateOf(p, c, day), capOf(p, c), isFree(p, c, day, price), price));
        }
        return parts;
    }

    private int dueOf(int day, int x, int y, int c, int units, int price) {
        int sum = 0;
        for (Part part : partsOf(day, x, y, c, price)) {
            sum += part.tax(units);
        }
        return sum;
    }

    private int ratesOf(int day, int x, int y, int c) {
        int sum = 0;
        for (int p : stackOf(day, x, y)) {
            sum += rateOf(p, c, day);
        }
        return sum;
    }

    private LinkedHashMap<List<Integer>, Integer> ledger() {
        LinkedHashMap<List<Integer>, Integer> map = new LinkedHashMap<>();
        for (Sale sale : s.book) {
            for (Part part : sale.parts) {
                map.merge(List.of(part.place, sale.good), part.tax(sale.left), Integer::sum);
            }
        }
        return map;
    }

    private int filedUpTo() {
        return s.filings.isEmpty() ? -1 : s.filings.get(s.filings.size() - 1).day;
    }

    private TreeMap<Integer, Integer> wouldPay(int day) {
        TreeMap<Integer, Integer> pays = new TreeMap<>();
        for (int p = 0; p < s.places.size(); p++) {
            pays.put(p, -s.less.getOrDefault(p, 0));
        }
        for (Sale sale : s.book) {
            if (!sale.filed && sale.day <= day) {
                for (Part part : sale.parts) {
                    pays.merge(part.place, part.tax(sale.left), Integer::sum);
                }
            }
        }
        return pays;
    }

    private static int of(TreeMap<Integer, Integer> pays, int p) {
        return p == -1 ? pays.values().stream().mapToInt(v -> v).sum() : pays.get(p);
    }

    // ---- the face

    public int feed(int a, int b, int c, int d, int e) {
        if (tape.length() > 1180) {
            return -1;
        }
        for (int number : new int[] {a, b, c, d, e}) {
            tape.append((char) (number >>> 24)).append((char) (number >>> 16 & 255));
            tape.append((char) (number >>> 8 & 255)).append((char) (number & 255));
        }
        return tape.length();
    }

    public int desk(int n) {
        return ask(-1, () -> {
            in(n, 0, tape.length(), 2);
            String text = tape.substring(0, n);
            tape.setLength(0);
            try {
                s = new Parse(text).all();
            } catch (Fault f) {
                fault = f.number;
                faultPlace = f.place;
                throw new Refused(4);
            }
            fault = 0;
            former.clear();
            return s.places.size();
        });
    }

    public int fault() {
        return fault;
    }

    public int where() {
        return trouble == 4 ? faultPlace : -1;
    }

    public int about(int what) {
        return ask(-1, () -> {
            open();
            in(what, 0, 8, 1);
            return new int[] {s.size, s.layers, s.classes.size(), s.places.size(), s.bounds.size(),
                s.rates.size(), s.holidays.size(), s.caps.size(), s.book.size()}[what];
        });
    }

    public int above(int c) {
        return ask(-1, () -> {
            isClass(c);
            return s.classes.get(c);
        });
    }

    public int place(int p, int what) {
        return ask(-1, () -> {
            isPlace(p);
            in(what, 0, 2, 1);
            Place place = s.places.get(p);
            int bounds = (int) s.bounds.stream().filter(b -> b.place == p).count();
            return new int[] {place.layer, place.only ? 1 : 0, bounds}[what];
        });
    }

    public int corners(int p, int day) {
        return ask(-1, () -> {
            isPlace(p);
            isDay(day);
            return xy(p, day).length / 2;
        });
    }

    public int corner(int p, int day, int i, int what) {
        return ask(-1, () -> {
            isPlace(p);
            in(what, 0, 1, 1);
            isDay(day);
            in(i, 0, xy(p, day).length / 2 - 1, 1);
            return xy(p, day)[2 * i + what];
        });
    }

    public int area(int p, int day) {
        return ask(FAR, () -> {
            isPlace(p);
            isDay(day);
            int[] c = xy(p, day);
            int n = c.length / 2;
            int sum = 0;
            for (int i = 0; i < n; i++) {
                int j = (i + 1) % n;
                sum += c[2 * i] * c[2 * j + 1] - c[2 * j] * c[2 * i + 1];
            }
            return sum;
        });
    }

    public int inside(int p, int day, int x, int y) {
        return ask(-1, () -> {
            isPlace(p);
            isDay(day);
            isPoint(x, y);
            return isIn(p, day, x, y) ? 1 : 0;
        });
    }

    public int onEdge(int p, int day, int x, int y) {
        return ask(-1, () -> {
            isPlace(p);
            isDay(day);
            isPoint(x, y);
            int[] c = xy(p, day);
            int n = c.length / 2;
            for (int i = 0; i < n; i++) {
                int j = (i + 1) % n;
                // All whole POINTS of the EDGE, step by step.
                int dx = c[2 * j] - c[2 * i];
                int dy = c[2 * j + 1] - c[2 * i + 1];
                int steps = Math.max(1, BigInteger.valueOf(dx).gcd(BigInteger.valueOf(dy)).intValue());
                for (int k = 0; k <= steps; k++) {
                    if (x == c[2 * i] + k * (dx / steps) && y == c[2 * i + 1] + k * (dy / steps)) {
                        return 1;
                    }
                }
            }
            return 0;
        });
    }

    public int nextMove(int p, int day) {
        return ask(-1, () -> {
            isPlace(p);
            isDay(day);
            return s.bounds.stream().filter(b -> b.place == p && b.day > day).mapToInt(b -> b.day)
                    .min().orElse(-2);
        });
    }

    public int settled(int layer, int day, int x, int y) {
        return ask(-1, () -> {
            open();
            in(layer, 0, s.layers - 1, 1);
            isDay(day);
            isPoint(x, y);
            return settledAt(layer, day, x, y);
        });
    }

    public int stack(int day, int x, int y) {
        return ask(-1, () -> {
            open();
            isDay(day);
            isPoint(x, y);
            return stackOf(day, x, y).size();
        });
    }

    public int stackAt(int day, int x, int y, int i) {
        return ask(-1, () -> {
            open();
            isDay(day);
            isPoint(x, y);
            in(i, 0, stackOf(day, x, y).size() - 1, 1);
            return stackOf(day, x, y).get(i);
        });
    }

    public int nextStack(int day, int x, int y) {
        return ask(-1, () -> {
            open();
            isDay(day);
            isPoint(x, y);
            for (int d = day + 1; d <= 999; d++) {
                if (!stackOf(d, x, y).equals(stackOf(day, x, y))) {
                    return d;
                }
            }
            return -2;
        });
    }

    public int overlap(int p, int q, int day) {
        return ask(-1, () -> {
            isPlace(p);
            isPlace(q);
            need(p != q, 1);
            need(s.places.get(p).layer == s.places.get(q).layer, 5);
            isDay(day);
            int sum = 0;
            for (int at = 0; at < (s.size + 1) * (s.size + 1); at++) {
                int x = at % (s.size + 1);
                int y = at / (s.size + 1);
                sum += isIn(p, day, x, y) && isIn(q, day, x, y) ? 1 : 0;
            }
            return sum;
        });
    }

    public int points(int p, int day) {
        return ask(-1, () -> {
            isPlace(p);
            isDay(day);
            int sum = 0;
            for (int at = 0; at < (s.size + 1) * (s.size + 1); at++) {
                int found = settledAt(s.places.get(p).layer, day, at % (s.size + 1), at / (s.size + 1));
                sum += found == p ? 1 : 0;
            }
            return sum;
        });
    }

    public int stacked(int many, int day) {
        return ask(-1, () -> {
            open();
            in(many, 0, 4, 2);
            isDay(day);
            int sum = 0;
            for (int at = 0; at < (s.size + 1) * (s.size + 1); at++) {
                sum += stackOf(day, at % (s.size + 1), at / (s.size + 1)).size() == many ? 1 : 0;
            }
            return sum;
        });
    }

    public int rate(int p, int c, int day) {
        return ask(-1, () -> {
            isPlace(p);
            isClass(c);
            isDay(day);
            return rateOf(p, c, day);
        });
    }

    public int free(int p, int c, int day, int price) {
        return ask(-1, () -> {
            isPlace(p);
            isClass(c);
            isDay(day);
            in(price, 1, 9999, 2);
            return isFree(p, c, day, price) ? 1 : 0;
        });
    }

    public int cap(int p, int c) {
        return ask(-1, () -> {
            isPlace(p);
            isClass(c);
            return capOf(p, c);
        });
    }

    public int stackRate(int day, int x, int y, int c) {
        return ask(-1, () -> {
            isClass(c);
            isDay(day);
            isPoint(x, y);
            return ratesOf(day, x, y, c);
        });
    }

    public int cheapest(int day, int c) {
        return ask(-1, () -> {
            isClass(c);
            isDay(day);
            TreeMap<Integer, Integer> firsts = new TreeMap<>();
            for (int y = 0; y <= s.size; y++) {
                for (int x = 0; x <= s.size; x++) {
                    firsts.putIfAbsent(ratesOf(day, x, y, c), x + 100 * y);
                }
            }
            return firsts.firstEntry().getValue();
        });
    }

    private void isSale(int day, int x, int y, int c, int units, int price) {
        isClass(c);
        isDay(day);
        isPoint(x, y);
        in(units, 1, 99, 2);
        in(price, 1, 9999, 2);
    }

    public int due(int day, int x, int y, int c, int units, int price) {
        return ask(-1, () -> {
            isSale(day, x, y, c, units, price);
            return dueOf(day, x, y, c, units, price);
        });
    }

    public int bestDay(int from, int till, int x, int y, int c, int units, int price) {
        return ask(-1, () -> {
            isSale(from, x, y, c, units, price);
            isDay(till);
            need(from <= till, 2);
            TreeMap<Integer, Integer> firsts = new TreeMap<>();
            for (int day = from; day <= till; day++) {
                firsts.putIfAbsent(dueOf(day, x, y, c, units, price), day);
            }
            return firsts.firstEntry().getValue();
        });
    }

    private Sale sold(int l) {
        open();
        in(l, 0, s.book.size() - 1, 1);
        return s.book.get(l);
    }

    public int line(int l, int what) {
        return ask(-1, () -> {
            Sale a = sold(l);
            in(what, 0, 9, 1);
            return new int[] {a.day, a.x, a.y, a.good, a.units, a.price, a.left, a.parts.size(), a.tax(),
                a.filed ? 1 : 0}[what];
        });
    }

    public int part(int l, int i, int what) {
        return ask(-1, () -> {
            Sale a = sold(l);
            in(i, 0, a.parts.size() - 1, 1);
            in(what, 0, 5, 1);
            Part part = a.parts.get(i);
            return new int[] {part.place, part.rate, part.cap, part.free ? 1 : 0, part.base(a.left),
                part.tax(a.left)}[what];
        });
    }

    public int entries() {
        return ask(-1, () -> {
            open();
            return ledger().size();
        });
    }

    public int entry(int i, int what) {
        return ask(-1, () -> {
            open();
            in(i, 0, ledger().size() - 1, 1);
            in(what, 0, 2, 1);
            List<Integer> key = new ArrayList<>(ledger().keySet()).get(i);
            return what == 2 ? ledger().get(key) : key.get(what);
        });
    }

    public int taxes(int p, int c) {
        return ask(-1, () -> {
            open();
            in(p, -1, s.places.size() - 1, 1);
            in(c, -1, s.classes.size() - 1, 1);
            return ledger().entrySet().stream()
                    .filter(e -> (p == -1 || e.getKey().get(0) == p) && (c == -1 || e.getKey().get(1) == c))
                    .mapToInt(e -> e.getValue()).sum();
        });
    }

    public int filings() {
        return ask(-1, () -> {
            open();
            return s.filings.size();
        });
    }

    public int filing(int i, int what) {
        return ask(-1, () -> {
            open();
            in(i, 0, s.filings.size() - 1, 1);
            in(what, 0, 1, 1);
            return what == 0 ? s.filings.get(i).day : s.filings.get(i).lines;
        });
    }

    public int pays(int i, int p) {
        return ask(FAR, () -> {
            open();
            in(i, 0, s.filings.size() - 1, 1);
            in(p, -1, s.places.size() - 1, 1);
            return of(s.filings.get(i).pays, p);
        });
    }

    public int pending(int day, int p) {
        return ask(FAR, () -> {
            open();
            in(p, -1, s.places.size() - 1, 1);
            in(day, filedUpTo() + 1, 999, 2);
            return of(wouldPay(day), p);
        });
    }

    private int moreNow(Sale a) {
        return a.left == 0 ? 0 : dueOf(a.day, a.x, a.y, a.good, a.left, a.price) - a.tax();
    }

    public int wrong() {
        return ask(-1, () -> {
            open();
            return (int) s.book.stream().filter(a -> moreNow(a) != 0).count();
        });
    }

    public int owed(int l) {
        return ask(FAR, () -> moreNow(sold(l)));
    }

    public int file(int day) {
        return ask(FAR, () -> {
            open();
            in(day, filedUpTo() + 1, 999, 2);
            need(s.filings.size() < 12, 3);
            act();
            TreeMap<Integer, Integer> pays = wouldPay(day);
            int lines = 0;
            for (int l = 0; l < s.book.size(); l++) {
                Sale a = s.book.get(l);
                if (!a.filed && a.day <= day) {
                    s.book.set(l, a.with(a.left, true));
                    lines++;
                }
            }
            s.less.clear();
            s.filings.add(new Filing(day, lines, pays));
            return of(pays, -1);
        });
    }

    public int sale(int day, int x, int y, int c, int units, int price) {
        return ask(-1, () -> {
            isSale(day, x, y, c, units, price);
            need(day > filedUpTo(), 5);
            need(s.book.size() < 40, 3);
            act();
            List<Part> parts = partsOf(day, x, y, c, price);
            s.book.add(new Sale(day, x, y, c, units, price, parts, units, false));
            return s.book.size() - 1;
        });
    }

    public int refund(int l, int units) {
        return ask(-1, () -> {
            Sale a = sold(l);
            in(units, 1, a.left, 2);
            act();
            s.book.set(l, a.with(a.left - units, a.filed));
            for (Part part : a.parts) {
                if (a.filed) {
                    s.less.merge(part.place, part.tax(a.left) - part.tax(a.left - units), Integer::sum);
                }
            }
            return a.tax() - s.book.get(l).tax();
        });
    }

    public int move(int p, int day, int dx, int dy) {
        return ask(-1, () -> {
            isPlace(p);
            isDay(day);
            List<Bound> own = s.bounds.stream().filter(b -> b.place == p).toList();
            Bound last = own.isEmpty() ? null : own.get(own.size() - 1);
            need(last == null || day > last.day, 2);
            in(dx, -40, 40, 2);
            in(dy, -40, 40, 2);
            int[] xy = last == null ? new int[0] : last.xy.clone();
            for (int i = 0; i < xy.length; i++) {
                xy[i] += i % 2 == 0 ? dx : dy;
                in(xy[i], 0, s.size, 2);
            }
            need(xy.length > 0, 5);
            need(s.bounds.size() < 16, 3);
            act();
            s.bounds.add(new Bound(p, day, xy));
            return own.size() + 1;
        });
    }

    public int turn(int p, int c, int day, int rate) {
        return ask(-1, () -> {
            isPlace(p);
            isClass(c);
            isDay(day);
            need(s.rates.stream().noneMatch(r -> r.place == p && r.good == c && r.day >= day), 2);
            in(rate, 0, 2500, 2);
            need(s.rates.size() < 20, 3);
            act();
            s.rates.add(new Rate(p, c, day, rate));
            return s.rates.size();
        });
    }

    public boolean undo() {
        return ask(0, () -> {
            open();
            need(!former.isEmpty(), 1);
            s = former.remove(former.size() - 1);
            return 1;
        }) == 1;
    }

    public int idle(int i) {
        List<Integer> list = new ArrayList<>();
        for (int p = 0; s != null && p < s.places.size(); p++) {
            int q = p;
            if (s.book.stream().noneMatch(a -> a.parts.stream().anyMatch(part -> part.place == q))) {
                list.add(p);
            }
        }
        if (i < 0 || i >= list.size()) {
            throw new NoSuchElementException();
        }
        return list.get(i);
    }

    public int size(int what) {
        switch (what) {
            case 0:
                return tape.length();
            case 1:
                return former.size();
            case 2:
                return s == null ? 0 : s.book.stream().mapToInt(a -> a.left).sum();
            default:
                return -1;
        }
    }

    public int trouble() {
        return trouble;
    }
}
