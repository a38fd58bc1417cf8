import java.lang.reflect.Method;
import java.nio.file.Files;
import java.nio.file.Path;
import java.util.ArrayList;
import java.util.List;
import java.util.regex.Matcher;
import java.util.regex.Pattern;

/**
 * The whole document, sentence by sentence and in its order: what it says, and below that checks of what the class
 * answers. Walk sees that no sentence is left out; the tests beside this one go on to the edges.
 */
public final class DocumentTest {
    private static final Check CHECK = new Check();
    private static final Pattern METHOD = Pattern.compile("    public (int|boolean) (\\w+)\\((.*)\\)( throws \\w+)?;");

    private final Walk walk;
    private final Path source;
    private final Path document;

    private DocumentTest(Path source) throws Exception {
        this.source = source;
        document = source.resolve("../../../../../shared/DOC.md").normalize();
        walk = new Walk(CHECK, document);
    }

    public static void main(String[] args) throws Exception {
        DocumentTest test = new DocumentTest(Path.of(args[0]).toAbsolutePath());
        test.whatItIs();
        test.face();
        new DocumentText(CHECK, test.walk).all();
        new DocumentTerms(test.walk).all();
        test.constants();
        test.interfaceSays();
        new DocumentPromises(test.walk).all();
        test.notPromised();
        test.walk.end();
        CHECK.end();
    }

    private void whatItIs() {
        walk.says("A desk for taxes by the place of a sale: districts in layers with borders that move by days, "
                + "points settled in them by crossings, also on borders; classes of goods of one another, rates by "
                + "days, holidays for cheap goods, caps by unit; the stack of a point, a sale's parts and what each "
                + "comes to, refunds by the stack of the sale, ledgers by district and class; what would be due by "
                + "other days, prices, points; where borders overlap, where nobody taxes, the cheapest point; "
                + "borders moved, rates turned, lines that are wrong since, undone; told as a text.");
        walk.says("An object is used for at most 512 calls after it has been made; what later calls answer is free.");
        SalePlaces x = Check.desk(Desks.PLAIN);
        int calls = (Desks.PLAIN.length() + 19) / 20 + 1;
        while (calls + 3 < 512) {
            walk.is("a SALE behind " + calls + " calls", x.sale(5, 1, 1, 0, 3, 100), 0);
            walk.is("undone", x.undo() ? 1 : 0, 1);
            calls += 2;
        }
        walk.is("the last SALE", x.sale(5, 1, 1, 0, 3, 100), 0);
        for (calls++; calls < 511; calls++) {
            walk.is("its DUE", x.line(0, 8), 45);
        }
        walk.is("the 512th call", x.line(0, 8), 45);
    }

    // "## The public face": every line of it, and nothing else.
    private void face() throws Exception {
        if (!Files.exists(document)) {
            return;
        }
        Matcher block = Pattern.compile("(?s)```java\n(.*?)```").matcher(Files.readString(document));
        CHECK.same("the face stands in the document", block.find() ? 1 : 0, 1);
        int methods = 0;
        for (String line : block.group(1).split("\n")) {
            Matcher told = METHOD.matcher(line);
            if (told.matches()) {
                methods++;
                CHECK.text("the face", line.trim(), "public " + spoken(SalePlaces.class.getMethod(told.group(2),
                        types(told.group(3))), told.group(3)) + ";");
            }
        }
        int own = 0;
        for (Method method : SalePlaces.class.getMethods()) {
            own += method.getDeclaringClass() == SalePlaces.class ? 1 : 0;
        }
        CHECK.same("methods of the class", own, methods);
        CHECK.same("methods of the document", methods, 47);
    }

    private static Class<?>[] types(String parameters) {
        List<Class<?>> list = new ArrayList<>();
        for (String parameter : parameters.isEmpty() ? new String[0] : parameters.split(", ")) {
            list.add(parameter.startsWith("int ") ? int.class : Object.class);
        }
        return list.toArray(new Class<?>[0]);
    }

    private static String spoken(Method method, String parameters) {
        String thrown = method.getExceptionTypes().length == 0 ? "" : " throws "
                + method.getExceptionTypes()[0].getSimpleName();
        return method.getReturnType() + " " + method.getName() + "(" + parameters + ")" + thrown;
    }

    private void constants() {
        walk.says("The constants: `NONE = -1`: There is none; refused.");
        walk.is("NONE", SalePlaces.NONE, -1);
        walk.is("refused", new SalePlaces().about(0), SalePlaces.NONE);
    }

    private void interfaceSays() throws Exception {
        String text = Files.readString(source);
        String[][] parts = {
            {"the desk", "feed", "desk", "fault", "where", "about", "above", "place"},
            {"borders", "corners", "corner", "area", "inside", "onEdge", "nextMove"},
            {"points", "settled", "stack", "stackAt", "nextStack", "overlap", "points", "stacked"},
            {"rates", "rate", "free", "cap", "stackRate", "cheapest", "due", "bestDay"},
            {"the book", "line", "part", "entries", "entry", "taxes", "filings", "filing", "pays", "pending", "wrong",
                "owed"},
            {"acts", "file", "sale", "refund", "move", "turn", "undo"},
            {"what is told", "idle", "size", "trouble"}};
        int at = 0;
        for (String[] part : parts) {
            StringBuilder calls = new StringBuilder();
            for (int i = 1; i < part.length; i++) {
                calls.append(i == 1 ? "`" : ", `").append(part[i]).append('`');
            }
            walk.says("Ahead of the calls " + calls + " the interface says: ---- " + part[0] + ".");
            at = behind(at, part[0], text.indexOf("    // ---- " + part[0] + "\n"));
            for (int i = 1; i < part.length; i++) {
                String type = part[i].equals("undo") ? "boolean " : "int ";
                at = behind(at, part[i], text.indexOf("    public " + type + part[i] + "("));
            }
        }
    }

    private int behind(int former, String what, int place) {
        walk.is(what + " stands behind what is told ahead of it", place > former ? 1 : 0, 1);
        return place;
    }

    private void notPromised() {
        walk.says("How the state is held inside the object is free, as are the speed of each call, the text of "
                + "toString and the behaviour of equals and hashCode.");
        walk.says("Use of one object from several threads at once is not promised to be safe.");
        walk.says("Nothing is promised beyond the answers and state changes described above, and nothing about an "
                + "object after its 512th call.");
    }
}
