import java.io.IOException;
import java.nio.file.Files;
import java.nio.file.Path;

/**
 * The document, read from its first line to its last: the words that a test quotes must be those that stand there
 * next, so that no sentence is left out. Headings and the Java of the face aren't read here.
 */
final class Walk {
    private final Check check;
    private final String document;
    private int read;
    private String words = "";

    /** Without the document at its place nothing is compared; the checks below each sentence are made all the same. */
    Walk(Check check, Path file) throws IOException {
        this.check = check;
        document = Files.exists(file) ? plain(Files.readString(file)) : "";
        if (document.isEmpty()) {
            System.out.println("no document at " + file + ": its words are not compared");
        }
    }

    private static String plain(String text) {
        String read = text.replaceAll("(?s)```java.*?```", "").replaceAll("(?m)^(#|```).*$", "");
        return read.replaceAll("\\s+", " ").trim();
    }

    /** The next words of the document. */
    void says(String next) {
        words = next;
        if (document.isEmpty()) {
            return;
        }
        boolean stands = document.startsWith(next, read);
        check.same("the document goes on: " + document.substring(read, Math.min(document.length(), read + 60))
                + ", not: " + next, stands ? 1 : 0, 1);
        if (stands) {
            read += next.length();
            read += read < document.length() && document.charAt(read) == ' ' ? 1 : 0;
        }
    }

    void end() {
        check.same("the document is read to its end", read, document.length());
    }

    void is(String call, long got, long due) {
        check.same(words + " -- " + call, got, due);
    }

    /** An answer with the TROUBLE that it leaves. */
    void is(String call, SalePlaces x, long got, long due, int trouble) {
        check.told(words + " -- " + call, x, got, due, trouble);
    }

    void alike(String what, String got, String due) {
        check.text(words + " -- " + what, got, due);
    }
}
