import java.io.IOException;
import java.nio.charset.StandardCharsets;
import java.nio.file.DirectoryStream;
import java.nio.file.Files;
import java.nio.file.Path;
import java.util.ArrayList;
import java.util.Arrays;
import java.util.List;
import java.util.regex.Matcher;
import java.util.regex.Pattern;

/**
 * That every sentence of the document has a test: the words in front of the checks of all tests must
 * stand in the document, and together they must be all of it.
 */
public final class DocumentTest {
    private static final Checks CHECKS = new Checks();
    private static final Path DOCUMENT = Path.of("../shared/DOC.md");
    private static final Path TESTS = Path.of("src/test/java");
    private static final Pattern QUOTE = Pattern.compile("CHECKS\\.sentence\\(((?:\"[^\"]*\"[\\s+]*)+)\\)");
    private static final Pattern CALL = Pattern.compile("^`([^`]*)`: ");
    private static final Pattern TEXT = Pattern.compile("\"([^\"]*)\"");

    private DocumentTest() {
    }

    public static void main(String[] args) throws IOException {
        if (!Files.exists(DOCUMENT)) {
            System.out.println("not looked at: there is no " + DOCUMENT);
            return;
        }
        String document = sentences();
        boolean[] quoted = new boolean[document.length()];
        List<String> quotes = quotes();
        quotes.add(Face.CLASS);
        quotes.addAll(Arrays.asList(Face.MEMBERS));
        for (String quote : quotes) {
            CHECKS.same("in the document: " + quote, mark(document, quote, quoted) ? 1 : 0, 1);
        }
        lookForTheRest(document, quoted);
        CHECKS.end();
    }

    /** The document in one line, without its headings and without the end, where it promises nothing. */
    private static String sentences() throws IOException {
        StringBuilder text = new StringBuilder();
        for (String line : Files.readAllLines(DOCUMENT, StandardCharsets.UTF_8)) {
            if (line.equals("## Not promised")) {
                break;
            }
            if (!line.startsWith("#") && !line.startsWith("```")) {
                text.append(withoutCall(line).trim()).append(' ');
            }
        }
        return text.toString().replaceAll("\\s+", " ");
    }

    /** The call that a promise begins with is one of the face, which LanguageTest looks at. */
    private static String withoutCall(String line) {
        Matcher call = CALL.matcher(line);
        if (!call.find()) {
            return line;
        }
        boolean isThere = Arrays.asList(Face.MEMBERS).contains("public " + call.group(1) + ";");
        CHECKS.same("of the face: " + call.group(1), isThere ? 1 : 0, 1);
        return line.substring(call.end());
    }

    private static List<String> quotes() throws IOException {
        List<String> quotes = new ArrayList<>();
        try (DirectoryStream<Path> files = Files.newDirectoryStream(TESTS, "*Test.java")) {
            for (Path file : files) {
                Matcher calls = QUOTE.matcher(Files.readString(file));
                while (calls.find()) {
                    StringBuilder quote = new StringBuilder();
                    Matcher parts = TEXT.matcher(calls.group(1));
                    while (parts.find()) {
                        quote.append(parts.group(1));
                    }
                    quotes.add(quote.toString());
                }
            }
        }
        return quotes;
    }

    private static boolean mark(String document, String quote, boolean[] quoted) {
        int at = document.indexOf(quote);
        boolean found = at >= 0;
        while (at >= 0) {
            for (int i = 0; i < quote.length(); i++) {
                quoted[at + i] = true;
            }
            at = document.indexOf(quote, at + 1);
        }
        return found;
    }

    private static void lookForTheRest(String document, boolean[] quoted) {
        int from = 0;
        while (from < quoted.length) {
            int to = from;
            while (to < quoted.length && quoted[to] == quoted[from]) {
                to++;
            }
            String part = document.substring(from, to);
            // Between two quotes there may be a comma or a bracket.
            boolean hasWords = part.matches(".*\\w.*");
            CHECKS.same("has a test: " + part, quoted[from] || !hasWords ? 1 : 0, 1);
            from = to;
        }
    }
}
