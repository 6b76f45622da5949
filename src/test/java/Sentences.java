import java.util.LinkedHashMap;
import java.util.Map;

/** The sentences under a heading of the document, in its words, each with a test of its own. */
final class Sentences {
    private final String heading;
    private final Map<String, Runnable> tests = new LinkedHashMap<>();

    Sentences(String heading) {
        this.heading = heading;
    }

    Sentences add(String sentence, Runnable test) {
        if (tests.put(sentence, test) != null) {
            throw new IllegalStateException("told twice: " + sentence);
        }
        return this;
    }

    String heading() {
        return heading;
    }

    String text() {
        return String.join(" ", tests.keySet());
    }

    void run() {
        tests.forEach((sentence, test) -> {
            int before = Check.count();
            Check.about(sentence);
            test.run();
            Check.due("how often it was tested, over 0", Check.count() > before, true);
        });
    }
}
