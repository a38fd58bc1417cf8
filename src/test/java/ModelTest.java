import java.lang.reflect.InvocationTargetException;
import java.lang.reflect.Method;
import java.util.ArrayList;
import java.util.Arrays;
import java.util.Comparator;
import java.util.List;
import java.util.Random;

/** Random runs of calls, each answered by SalePlaces and by the Model; the seeds are fixed. */
public final class ModelTest {
    private static final int[] EDGES = {-2, -1, 0, 1, 2, 3, 4, 5, 9, 10, 20, 40, 41, 99, 100, 999, 1000,
        2500, 2501, 9999, 10000, Integer.MAX_VALUE, Integer.MIN_VALUE};
    private static final String[] ACTS = {"sale", "sale", "sale", "sale", "refund", "refund", "refund", "move",
        "turn", "file", "undo"};
    private static final int RUNS = Integer.getInteger("runs", 3000);
    // An object is good for 512 calls; those with which an answer is looked at are counted, too.
    private static final int MOST_CALLS = 512;

    private final Random random;
    private final SalePlaces x = new SalePlaces();
    private final Model m = new Model();
    private final List<String> told = new ArrayList<>();
    private int calls;
    // How many of six calls are ACTS: some runs are to fill all rows.
    private final int busy;
    private int size = 10;
    private int span = 30;
    private int classes = 3;
    private int places = 3;

    private ModelTest(long seed) {
        random = new Random(seed);
        busy = random.nextInt(4) == 0 ? 5 : 2;
    }

    public static void main(String[] args) throws Exception {
        Method[] all = SalePlaces.class.getDeclaredMethods();
        List<Method> face = new ArrayList<>();
        for (Method method : all) {
            if (java.lang.reflect.Modifier.isPublic(method.getModifiers())) {
                face.add(method);
            }
        }
        face.sort(Comparator.comparing(Method::getName));
        for (int run = 0; run < RUNS; run++) {
            if (!new ModelTest(run).run(face)) {
                System.exit(1);
            }
        }
    }

    private boolean run(List<Method> face) throws Exception {
        boolean fine = true;
        if (random.nextInt(10) > 0) {
            fine = load();
            // A spoiled text leaves no DESK; most runs are to have one.
            for (int more = 0; fine && more < 3 && m.fault() != 0; more++) {
                fine = load();
            }
        }
        while (fine && calls < MOST_CALLS) {
            if (random.nextInt(400) == 0) {
                fine = load();
                continue;
            }
            Method method = face.get(random.nextInt(face.size()));
            if (random.nextInt(6) < busy) {
                method = pick(face, ACTS[random.nextInt(ACTS.length)]);
            }
            String name = method.getName();
            if ((name.equals("feed") || name.equals("desk")) && random.nextInt(8) > 0) {
                continue;
            }
            fine = call(method, arguments(method));
        }
        return fine;
    }

    private static Method pick(List<Method> face, String name) {
        return face.stream().filter(method -> method.getName().equals(name)).findFirst().orElseThrow();
    }

    private boolean call(Method method, Object[] arguments) throws Exception {
        calls += 2;
        if (calls > MOST_CALLS) {
            return true;
        }
        String got = answer(method, x, arguments);
        Method twin = Model.class.getMethod(method.getName(), method.getParameterTypes());
        String due = answer(twin, m, arguments);
        told.add(method.getName() + Arrays.toString(arguments) + " " + got);
        if (got.equals(due) && x.trouble() == m.trouble()) {
            return true;
        }
        told.forEach(System.out::println);
        System.out.println("due is " + due + "; trouble " + x.trouble() + " " + m.trouble());
        return false;
    }

    private static String answer(Method method, Object on, Object[] arguments) throws Exception {
        try {
            return String.valueOf(method.invoke(on, arguments));
        } catch (InvocationTargetException e) {
            return "throws." + e.getCause().getClass().getSimpleName();
        }
    }

    private boolean load() throws Exception {
        String text = random.nextInt(4) == 0 ? spoil(text()) : text();
        if (text.length() > 1200) {
            text = text.substring(0, 1200);
        }
        told.add(text);
        Method feed = SalePlaces.class.getMethod("feed", int.class, int.class, int.class, int.class, int.class);
        Method desk = SalePlaces.class.getMethod("desk", int.class);
        Method fault = SalePlaces.class.getMethod("fault");
        Method where = SalePlaces.class.getMethod("where");
        int before = m.size(0);
        for (int at = 0; at < text.length(); at += 20) {
            Object[] five = new Object[5];
            for (int k = 0; k < 5; k++) {
                five[k] = Check.four(text, at + 4 * k);
            }
            if (!call(feed, five)) {
                return false;
            }
        }
        int n = Math.min(before + text.length(), m.size(0));
        if (random.nextInt(20) == 0) {
            n += random.nextInt(5) - 2;
        }
        return call(desk, new Object[] {n}) && call(fault, new Object[0]) && call(where, new Object[0]);
    }

    // ---- arguments

    private Object[] arguments(Method method) {
        String name = method.getName();
        Object[] list = new Object[method.getParameterCount()];
        String[] kinds = kinds(name);
        for (int i = 0; i < list.length; i++) {
            list[i] = random.nextInt(60) == 0 ? EDGES[random.nextInt(EDGES.length)] : of(kinds[i]);
        }
        return list;
    }

    private static String[] kinds(String name) {
        String kinds;
        switch (name) {
            case "feed" -> kinds = "any any any any any";
            case "desk" -> kinds = "any";
            case "about" -> kinds = "ten";
            case "above" -> kinds = "class";
            case "place" -> kinds = "place few";
            case "corners", "area", "nextMove", "points" -> kinds = "place day";
            case "corner" -> kinds = "place day few few";
            case "inside", "onEdge" -> kinds = "place day at at";
            case "settled" -> kinds = "few day at at";
            case "stack", "nextStack" -> kinds = "day at at";
            case "stackAt" -> kinds = "day at at few";
            case "overlap" -> kinds = "place place day";
            case "stacked" -> kinds = "few day";
            case "rate" -> kinds = "place class day";
            case "free" -> kinds = "place class day price";
            case "cap", "taxes" -> kinds = "place class";
            case "stackRate" -> kinds = "day at at class";
            case "cheapest" -> kinds = "day class";
            case "due" -> kinds = "day at at class units price";
            case "sale" -> kinds = "saleday at at class units price";
            case "bestDay" -> kinds = "day day at at class units price";
            case "line" -> kinds = "line ten";
            case "part" -> kinds = "line few six";
            case "entry" -> kinds = "line few";
            case "filing", "pays" -> kinds = "few place";
            case "pending" -> kinds = "saleday place";
            case "owed" -> kinds = "line";
            case "file" -> kinds = "fileday";
            case "refund" -> kinds = "line units";
            case "move" -> kinds = "place late by by";
            case "turn" -> kinds = "place class late rate";
            case "idle", "size" -> kinds = "few";
            default -> kinds = "";
        }
        return kinds.split(" ");
    }

    private int of(String kind) {
        return switch (kind) {
            case "any" -> random.nextInt(40);
            case "ten" -> random.nextInt(10);
            case "six" -> random.nextInt(7);
            case "few" -> random.nextInt(5) - random.nextInt(40) / 39;
            case "class" -> random.nextInt(20) == 0 ? random.nextInt(7) - 1 : random.nextInt(classes);
            case "place" -> random.nextInt(20) == 0 ? random.nextInt(11) - 1 : random.nextInt(places);
            case "day" -> random.nextInt(span + 5);
            case "saleday" -> Math.min(999, calls * span / 650 + random.nextInt(span / 2 + 1));
            case "fileday" -> Math.min(999, calls * span / 650 + random.nextInt(4) - 1);
            case "late" -> random.nextInt(random.nextBoolean() ? span + 5 : 1000);
            case "at" -> random.nextInt(size + 1);
            case "units" -> 1 + random.nextInt(random.nextBoolean() ? 5 : 99);
            case "price" -> 1 + random.nextInt(random.nextBoolean() ? 300 : 9999);
            case "line" -> random.nextInt(1 + Math.max(1, Math.min(40, m.size(2) / 20)));
            case "by" -> random.nextInt(9) - 4;
            case "rate" -> random.nextInt(2501);
            default -> throw new IllegalStateException(kind);
        };
    }

    // ---- texts

    private String text() {
        String[] classNames = {"all", "food", "wine", "price", "size", "layer", "g"};
        String[] placeNames = {"st", "ci", "cj", "layers", "p", "q", "r", "s", "t", "u", "v"};
        size = random.nextInt(4) == 0 ? 2 + random.nextInt(39) : 4 + random.nextInt(8);
        span = random.nextInt(5) == 0 ? 999 : 30;
        int layers = 1 + random.nextInt(4);
        classes = random.nextInt(30) == 0 ? 7 : 1 + random.nextInt(5);
        places = random.nextInt(30) == 0 ? 11 : 1 + random.nextInt(6);
        StringBuilder text = new StringBuilder("desk size " + size + " layers " + layers);
        for (int c = 0; c < classes; c++) {
            text.append(";class ").append(classNames[c]);
            if (c > 0 && random.nextInt(4) > 0) {
                text.append(" of ").append(classNames[random.nextInt(c)]);
            }
        }
        for (int p = 0; p < places; p++) {
            text.append(";place ").append(placeNames[p]).append(" layer ").append(random.nextInt(layers));
            text.append(random.nextInt(5) == 0 ? " only" : "");
        }
        int[] days = new int[places];
        int bounds = random.nextInt(10) == 0 ? random.nextInt(18) : Math.min(16, places + random.nextInt(8));
        for (int b = 0; b < bounds; b++) {
            int p = b < places ? b : random.nextInt(places);
            int day = days[p] + random.nextInt(2) * random.nextInt(5);
            days[p] = day + 1;
            text.append(";bound ").append(placeNames[p]).append(' ').append(day);
            area(text);
        }
        int[] rateDays = new int[places * classes];
        int rates = random.nextInt(random.nextInt(10) == 0 ? 23 : 15);
        for (int r = 0; r < rates; r++) {
            int p = r < places ? r : random.nextInt(places);
            int c = r < places ? 0 : random.nextInt(classes);
            int day = rateDays[p * classes + c] + random.nextInt(2) * random.nextInt(8);
            rateDays[p * classes + c] = day + 1;
            text.append(";rate ").append(placeNames[p]).append(' ').append(classNames[c]).append(' ')
                    .append(day).append(' ').append(random.nextInt(2501));
        }
        int holidays = random.nextInt(random.nextInt(10) == 0 ? 8 : 4);
        for (int h = 0; h < holidays; h++) {
            int from = random.nextInt(span);
            text.append("; holiday ").append(placeNames[random.nextInt(places)]).append(' ')
                    .append(classNames[random.nextInt(classes)]).append(' ').append(from).append(' ')
                    .append(from + random.nextInt(1 + Math.min(20, 999 - from))).append("price")
                    .append(1 + random.nextInt(400));
        }
        int caps = random.nextInt(random.nextInt(10) == 0 ? 8 : 4);
        for (int c = 0; c < caps; c++) {
            text.append(" ;cap ").append(placeNames[c % places]).append(' ')
                    .append(classNames[random.nextInt(classes)]).append(' ').append(1 + random.nextInt(500));
        }
        return text.toString();
    }

    private void area(StringBuilder text) {
        int sort = random.nextInt(6);
        int low = random.nextInt(size / 2);
        int high = size - random.nextInt(size / 2);
        if (sort == 0) {
            text.append(" none");
        } else if (sort <= 2) {
            int left = random.nextInt(size / 2);
            int right = size - random.nextInt(size / 2);
            text.append(' ').append(left).append(' ').append(low).append(' ').append(right).append(' ')
                    .append(low).append(' ').append(right).append(' ').append(high).append(' ').append(left)
                    .append(' ').append(high);
        } else {
            int corners = 3 + random.nextInt(4);
            for (int i = 0; i < 2 * corners; i++) {
                text.append(' ').append(random.nextInt(size + 1));
            }
        }
    }

    private String spoil(String text) {
        String signs = " ;0159adeoprx$A\t\u00ff";
        StringBuilder spoiled = new StringBuilder(text);
        int times = 1 + random.nextInt(2);
        for (int k = 0; k < times && spoiled.length() > 2; k++) {
            int at = random.nextInt(spoiled.length());
            char sign = signs.charAt(random.nextInt(signs.length()));
            switch (random.nextInt(6)) {
                case 0 -> spoiled.deleteCharAt(at);
                case 1 -> spoiled.insert(at, sign);
                case 2 -> spoiled.setCharAt(at, sign);
                case 3 -> spoiled.setLength(at);
                case 4 -> swapLines(spoiled);
                default -> swapTokens(spoiled);
            }
        }
        return spoiled.toString();
    }

    private void swapLines(StringBuilder text) {
        swap(text, ";", ";");
    }

    private void swapTokens(StringBuilder text) {
        swap(text, "(?<=[ ;])|(?=[;])", "");
    }

    // One part of a text is written over another one.
    private void swap(StringBuilder text, String at, String with) {
        String[] parts = text.toString().split(at);
        parts[random.nextInt(parts.length)] = parts[random.nextInt(parts.length)];
        text.setLength(0);
        text.append(String.join(with, parts));
    }
}
