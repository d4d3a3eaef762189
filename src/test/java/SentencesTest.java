import java.io.IOException;
import java.nio.file.Files;
import java.nio.file.Path;
import java.util.ArrayList;
import java.util.List;
import java.util.regex.Matcher;
import java.util.regex.Pattern;
import java.util.stream.Stream;

/**
 * Each sentence of Terms and of the promises has a test that quotes it by says(), word for word:
 * what no test quotes, and what the document doesn't say (any more), is told here.
 */
public final class SentencesTest {
    private static final Path DOCUMENT = Path.of("../shared/DOC.md");
    private static final Path TESTS = Path.of("src/test/java");
    private static final int PROMISES = 51;
    private static int wrong = 0;

    public static void main(String[] args) throws IOException {
        String document = Files.readString(DOCUMENT);
        List<List<String>> quotes = quotes();
        int all = 0;
        for (int number = 0; number <= PROMISES; number++) {
            all += quotes.get(number).size();
            compare(number, section(document, number), quotes.get(number));
        }
        System.out.println(all + " sentences are quoted by tests, " + wrong + " not as due");
        if (wrong != 0) {
            System.exit(1);
        }
    }

    private static void must(boolean is, String what) {
        if (!is) {
            wrong++;
            System.out.println(what);
        }
    }

    /** By promise (0: Terms) what the tests quote. */
    private static List<List<String>> quotes() throws IOException {
        List<List<String>> all = new ArrayList<>();
        for (int number = 0; number <= PROMISES; number++) {
            all.add(new ArrayList<>());
        }
        List<Path> files;
        try (Stream<Path> found = Files.list(TESTS)) {
            files = found.filter(file -> file.toString().endsWith("Test.java")).sorted().toList();
        }
        for (Path file : files) {
            Matcher quote = Pattern.compile("due\\.says\\((\\d+), \"([^\"]*)\"\\);").matcher(Files.readString(file));
            while (quote.find()) {
                all.get(Integer.parseInt(quote.group(1))).add(quote.group(2));
            }
        }
        return all;
    }

    /** What the document says there, in one row, without its headings. */
    private static String section(String document, int number) {
        String head = number == 0 ? "## Terms\n" : "## Promise " + number + ": ";
        int start = document.indexOf(head);
        int end = document.indexOf("\n## ", start);
        must(start >= 0 && end > start, "the document has no section '" + head.trim() + "'");
        String text = start < 0 || end < start ? "" : document.substring(start + head.length(), end);
        if (number > 0) {
            text = text.replaceFirst("(?s)^[^`]*`[^`]*`: ", "");
        }
        return text.replace("```text", "").replace("```", "").replaceAll("\\s+", " ").trim();
    }

    private static void compare(int number, String text, List<String> quotes) {
        boolean[] quoted = new boolean[text.length()];
        for (String quote : quotes) {
            int at = text.indexOf(quote);
            must(at >= 0, "the document doesn't say " + number + ", \"" + quote + "\"");
            for (; at >= 0; at = text.indexOf(quote, at + 1)) {
                java.util.Arrays.fill(quoted, at, at + quote.length(), true);
            }
        }
        StringBuilder rest = new StringBuilder();
        for (int i = 0; i < text.length(); i++) {
            rest.append(quoted[i] ? '|' : text.charAt(i));
        }
        // The numbers of the parts of Terms, and which calls stand where in the interface, bind nothing.
        String left = rest.toString().replaceAll("(^| |\\|)[123]\\. ", "|").replaceAll("Ahead of the calls [^|]*the interface says: (----[^|]*?\\.)?", "|");
        for (String piece : left.split("\\|+")) {
            must(piece.isBlank(), "no test quotes " + number + ", \"" + piece + "\"");
        }
    }
}
