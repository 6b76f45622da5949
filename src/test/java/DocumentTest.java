import java.nio.file.Files;
import java.nio.file.Path;
import java.util.ArrayList;
import java.util.List;

/**
 * Every sentence of 'Terms' and of the promises has a test: those that have one are all. The face
 * is written in the class as it is in the document.
 */
final class DocumentTest {
    private static final Path DOCUMENT = Path.of("../shared/DOC.md");
    private static final Path MAIN = Path.of("src/main/java/ShapeJudge.java");

    private DocumentTest() {
    }

    public static void main(String[] args) throws Exception {
        String document = Files.readString(DOCUMENT);
        Check.due("Terms", section(document, "Terms"), String.join(" ", TermsTest.words().text(),
                FaultsTest.sentences().text(), TermsTest.last().text()));
        List<String> headings = new ArrayList<>();
        for (Sentences promise : PromisesTest.sentences()) {
            headings.add(promise.heading());
            Check.due(promise.heading(), section(document, promise.heading()), promise.text());
        }
        for (String line : document.split("\n")) {
            if (line.startsWith("## Promise")) {
                Check.due("a test of " + line, headings.contains(line.substring(3).trim()), true);
            }
        }
        face(section(document, "The public face"), Files.readString(MAIN));
        Check.end();
    }

    private static void face(String declared, String main) {
        String code = main.replaceAll("\\s+", " ");
        String outer = declared.substring(0, declared.indexOf('{') + 1);
        Check.due("the class is declared so: " + outer, code.contains(outer), true);
        String[] members = declared.substring(outer.length()).replace("}", "").trim().split(";");
        Check.due("how many members the face has", members.length, 9);
        for (String member : members) {
            String want = member.trim() + (member.contains("(") ? " {" : ";");
            Check.due("the class declares: " + want, code.contains(want), true);
        }
    }

    /** What stands under a heading, without its marks of code and a method's own line. */
    private static String section(String document, String heading) {
        int start = document.indexOf("\n## " + heading + "\n");
        if (start < 0) {
            return "no such heading";
        }
        int from = document.indexOf('\n', start + 1);
        int to = document.indexOf("\n## ", from);
        String text = document.substring(from, to < 0 ? document.length() : to);
        return text.replaceAll("```[a-z]*", " ").replaceAll("\\s+", " ").trim()
                .replaceAll("^`[^`]*`: ", "");
    }
}
