import java.lang.reflect.InvocationTargetException;
import java.lang.reflect.Method;
import java.nio.file.Files;
import java.nio.file.Path;
import java.util.Arrays;
import java.util.regex.Matcher;
import java.util.regex.Pattern;

/** README.md: every call that stands there with an answer behind it is made, on one object and in that order. */
public final class ReadmeTest {
    private static final Check CHECK = new Check();
    private static final Pattern CALL = Pattern.compile("x\\.(\\w+)\\(([-0-9, ]*)\\); *// "
            + "([-\\w]+( \\w+Exception)?).*");
    private static final Pattern READ = Pattern.compile("read\\(x, \"([^\"]*)\"\\); *// (-?\\d+).*");

    public static void main(String[] args) throws Exception {
        Path readme = Path.of(args[0]).toAbsolutePath().resolve("../../../../README.md").normalize();
        SalePlaces x = new SalePlaces();
        int made = 0;
        for (String line : Files.readAllLines(readme)) {
            Matcher call = CALL.matcher(line);
            Matcher read = READ.matcher(line);
            if (call.matches()) {
                CHECK.text(line, answer(x, call.group(1), call.group(2)), call.group(3));
                made++;
            } else if (read.matches()) {
                CHECK.same(line, Check.read(x, read.group(1)), Integer.parseInt(read.group(2)));
                made++;
            }
        }
        CHECK.same("calls of README.md", made, 21);
        theTextOnTop(Files.readString(readme));
        CHECK.end();
    }

    private static String answer(SalePlaces x, String name, String numbers) throws Exception {
        String[] told = numbers.isEmpty() ? new String[0] : numbers.split(", ");
        Class<?>[] types = new Class<?>[told.length];
        Arrays.fill(types, int.class);
        Object[] values = new Object[told.length];
        for (int i = 0; i < told.length; i++) {
            values[i] = Integer.valueOf(told[i]);
        }
        Method method = SalePlaces.class.getMethod(name, types);
        try {
            return String.valueOf(method.invoke(x, values));
        } catch (InvocationTargetException e) {
            return "throws " + e.getCause().getClass().getSimpleName();
        }
    }

    // The text with what each of its lines means: the part of a line ahead of five blanks is of the text.
    private static void theTextOnTop(String readme) {
        int begin = readme.indexOf("```text\n") + "```text\n".length();
        StringBuilder text = new StringBuilder();
        for (String line : readme.substring(begin, readme.indexOf("```", begin)).split("\n")) {
            text.append(line.split(" {5}")[0]);
        }
        SalePlaces x = new SalePlaces();
        CHECK.told(text.toString(), x, Check.read(x, text.toString()), 1, 0);
        CHECK.same("d is of c", x.above(1), 0);
        CHECK.same("also for d", x.rate(0, 1, 0), 500);
        CHECK.same("free on day 7", x.free(0, 1, 7, 20), 1);
        CHECK.same("free on day 8", x.free(0, 1, 8, 20), 1);
        CHECK.same("not on day 9", x.free(0, 1, 9, 20), 0);
        CHECK.same("of a dearer d only 60", x.due(0, 1, 1, 1, 10, 500), 30);
    }
}
