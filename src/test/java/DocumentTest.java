import java.nio.file.Files;
import java.nio.file.Path;
import java.util.ArrayList;
import java.util.List;

/** Every sentence of 'Terms' and of the promises has a test: those that have one are all. */
final class DocumentTest {
    private static final Path DOCUMENT = Path.of("../shared/DOC.md");

    private DocumentTest() {
    }

    public static void main(String[] args) throws Exception {
        String document = Files.readString(DOCUMENT);
        Check.due("Terms", section(document, "Terms"), String.join(" ", TermsTest.words().text(),
                FaultsTest.sentences().text(), TermsTest.last().text()));
        List<String> headings = new ArrayList<>();
        for (Sentences promise : PromisesTest.sentences()) {
            headings.add(promise.heading());
            Check.due(promise.heading(), section(document, promise.heading()), promise.text());
        }
        for (String line : document.split("\n")) {
            if (line.startsWith("## Promise")) {
                Check.due("a test of " + line, headings.contains(line.substring(3).trim()), true);
            }
        }
        Check.end();
    }

    /** What stands under a heading, without its marks of code and a method's own line. */
    private static String section(String document, String heading) {
        int start = document.indexOf("\n## " + heading + "\n");
        if (start < 0) {
            return "no such heading";
        }
        int from = document.indexOf('\n', start + 1);
        int to = document.indexOf("\n## ", from);
        String text = document.substring(from, to < 0 ? document.length() : to);
        return text.replaceAll("```[a-z]*", " ").replaceAll("\\s+", " ").trim()
                .replaceAll("^`[^`]*`: ", "");
    }
}
