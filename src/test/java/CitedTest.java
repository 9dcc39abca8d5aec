import java.io.IOException;
import java.nio.file.DirectoryStream;
import java.nio.file.Files;
import java.nio.file.Path;
import java.util.ArrayList;
import java.util.Arrays;
import java.util.List;
import java.util.regex.Matcher;
import java.util.regex.Pattern;

/**
 * The sentences that the tests name stand in the document, and none of its terms and promises is left without a test
 * that names it. Run in the project's folder.
 */
public final class CitedTest {
    private static final Checks CHECKS = new Checks();
    private static final Path DOCUMENT = Path.of("../shared/DOC.md");
    private static final Path TESTS = Path.of("src/test/java");
    private static final Pattern CITED = Pattern.compile("CHECKS\\.sentence\\(((?:\\s*\\+?\\s*\"[^\"]*\")+)\\s*\\);");
    private static final Pattern WORDS = Pattern.compile("\"([^\"]*)\"");

    public static void main(String[] args) throws IOException {
        if (!Files.isReadable(DOCUMENT)) {
            System.out.println("no document here to look into");
            return;
        }
        String text = Files.readString(DOCUMENT);
        List<String> cited = citedSentences();
        String whole = oneLine(text);
        for (String sentence : cited) {
            CHECKS.holds("the document says: " + sentence, whole.contains(sentence));
        }
        everyWordIsCited(promised(text), cited);
        CHECKS.end();
    }

    private static List<String> citedSentences() throws IOException {
        List<String> all = new ArrayList<>();
        try (DirectoryStream<Path> files = Files.newDirectoryStream(TESTS, "*Test.java")) {
            for (Path file : files) {
                Matcher calls = CITED.matcher(Files.readString(file));
                while (calls.find()) {
                    all.add(joined(calls.group(1)));
                }
            }
        }
        return all;
    }

    private static String joined(String literals) {
        StringBuilder words = new StringBuilder();
        Matcher parts = WORDS.matcher(literals);
        while (parts.find()) {
            words.append(parts.group(1));
        }
        return words.toString();
    }

    private static String oneLine(String text) {
        return text.replace("```text", " ").replace("```", " ").replaceAll("\\s+", " ");
    }

    /** The terms and the promises, without headings, signatures and marks. */
    private static String promised(String text) {
        String part = text.substring(text.indexOf("## Terms"), text.indexOf("## Not promised"));
        String plain = part.replaceAll("(?m)^##.*$", " ").replaceAll("(?m)^`[^`]*`: ", " ");
        return oneLine(plain.replaceAll("==== \\d\\.", " "));
    }

    private static void everyWordIsCited(String promised, List<String> cited) {
        boolean[] isCited = new boolean[promised.length()];
        for (String sentence : cited) {
            for (int at = promised.indexOf(sentence); at >= 0; at = promised.indexOf(sentence, at + 1)) {
                Arrays.fill(isCited, at, at + sentence.length(), true);
            }
        }
        StringBuilder left = new StringBuilder();
        for (int i = 0; i < isCited.length; i++) {
            left.append(isCited[i] ? ' ' : promised.charAt(i));
        }
        Matcher words = Pattern.compile("[\\w][^.;]*").matcher(left.toString().replaceAll(" {2,}", " . "));
        while (words.find()) {
            CHECKS.fails("no test names: " + words.group(), true);
        }
    }
}
