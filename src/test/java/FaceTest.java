import java.lang.reflect.Constructor;
import java.lang.reflect.Field;
import java.lang.reflect.Method;
import java.lang.reflect.Modifier;
import java.nio.file.Files;
import java.nio.file.Path;
import java.util.Set;
import java.util.TreeSet;

/** The public face, and the rules of LANGUAGE.md that can be seen in the file. */
public final class FaceTest {
    private static final Check CHECK = new Check();
    private static final String FACE = """
            int about(int);int above(int);int area(int,int);int bestDay(int,int,int,int,int,int,int);int cap(int,int);
            int cheapest(int,int);int corner(int,int,int,int);int corners(int,int);int desk(int);
            int due(int,int,int,int,int,int);int entries();int entry(int,int);int fault();
            int feed(int,int,int,int,int);int file(int);int filing(int,int);int filings();
            int free(int,int,int,int);int idle(int);int inside(int,int,int,int);int line(int,int);
            int move(int,int,int,int);int nextMove(int,int);int nextStack(int,int,int);int onEdge(int,int,int,int);
            int overlap(int,int,int);int owed(int);int part(int,int,int);int pays(int,int);int pending(int,int);
            int place(int,int);int points(int,int);int rate(int,int,int);int refund(int,int);
            int sale(int,int,int,int,int,int);int settled(int,int,int,int);int size(int);int stack(int,int,int);
            int stackAt(int,int,int,int);int stackRate(int,int,int,int);int stacked(int,int);int taxes(int,int);
            int trouble();int turn(int,int,int,int);int where();int wrong();boolean undo()""";

    public static void main(String[] args) throws Exception {
        members();
        names();
        source(Path.of(args[0]));
        CHECK.end();
    }

    private static void members() {
        Set<String> due = new TreeSet<>();
        for (String method : FACE.replace("\n", "").split(";")) {
            due.add(method);
        }
        Set<String> got = new TreeSet<>();
        for (Method method : SalePlaces.class.getDeclaredMethods()) {
            if (Modifier.isPrivate(method.getModifiers()) || method.isSynthetic()) {
                continue;
            }
            StringBuilder told = new StringBuilder(method.getReturnType() + " " + method.getName() + "(");
            for (Class<?> type : method.getParameterTypes()) {
                told.append(told.charAt(told.length() - 1) == '(' ? "" : ",").append(type);
            }
            got.add(told + ")");
            CHECK.same(told + " is public", Modifier.isPublic(method.getModifiers()) ? 1 : 0, 1);
        }
        CHECK.same("methods " + got, got.equals(due) ? 1 : 0, 1);
        CHECK.same("how many", due.size(), 47);
        for (Field field : SalePlaces.class.getDeclaredFields()) {
            boolean known = field.getName().equals("NONE") && Modifier.isPublic(field.getModifiers());
            CHECK.same(field.getName(), known || Modifier.isPrivate(field.getModifiers()) ? 1 : 0, 1);
        }
        Constructor<?>[] constructors = SalePlaces.class.getDeclaredConstructors();
        CHECK.same("constructors", constructors.length, 1);
        CHECK.same("constructor", Modifier.isPublic(constructors[0].getModifiers()) ? 1 : 0, 1);
        CHECK.same("final", Modifier.isFinal(SalePlaces.class.getModifiers()) ? 1 : 0, 1);
        CHECK.same("classes", SalePlaces.class.getDeclaredClasses().length <= 11 ? 1 : 0, 1);
    }

    // Rules 1, 2, 5 and 11 for the classes inside, too.
    private static void names() {
        Set<String> face = new TreeSet<>();
        for (Method method : SalePlaces.class.getMethods()) {
            face.add(method.getName());
        }
        for (Class<?> inside : SalePlaces.class.getDeclaredClasses()) {
            CHECK.same(inside + " is static", Modifier.isStatic(inside.getModifiers()) ? 1 : 0, 1);
            int fields = 0;
            for (Method method : inside.getDeclaredMethods()) {
                CHECK.same(inside + " " + method.getName(), face.contains(method.getName()) ? 1 : 0, 0);
                CHECK.same(inside + " " + method.getName(), method.getParameterCount() <= 7 ? 1 : 0, 1);
            }
            for (Field field : inside.getDeclaredFields()) {
                boolean still = Modifier.isStatic(field.getModifiers());
                fields += still ? 0 : 1;
                CHECK.same(inside + " " + field, still && !Modifier.isFinal(field.getModifiers()) ? 1 : 0, 0);
            }
            CHECK.same(inside + " fields", fields <= 20 ? 1 : 0, 1);
        }
    }

    private static void source(Path path) throws Exception {
        String text = Files.readString(path);
        String[] no = {"try {", "catch (", "finally", "synchronized", "assert", "->", "::", "package ", "System.",
            "Exact", "Object", "Random", "null"};
        for (String word : no) {
            CHECK.same("the file says " + word, text.contains(word) ? 1 : 0, 0);
        }
        CHECK.same("one throw", text.split("throw new").length, 2);
        CHECK.same("one import", text.split("import ").length, 2);
    }
}
