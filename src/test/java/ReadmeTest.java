import java.io.IOException;
import java.lang.reflect.Method;
import java.lang.reflect.Modifier;
import java.nio.file.Files;
import java.nio.file.Path;
import java.util.ArrayList;
import java.util.List;
import java.util.Set;
import java.util.TreeSet;
import java.util.regex.Matcher;
import java.util.regex.Pattern;
import java.util.stream.Stream;

/** What README.md says is so: its calls with their answers, its tables, its list of tests. */
final class ReadmeTest {
    private static final Pattern CALL =
            Pattern.compile("judge\\.(\\w+)\\(([^)]*)\\);\\s*(?://\\s*(?:(-?\\d+)(?::.*)?|.*))?");

    private ReadmeTest() {
    }

    public static void main(String[] args) throws Exception {
        String readme = Files.readString(Path.of("README.md"));
        example(readme);
        calls(readme);
        kinds(readme);
        faults(readme);
        tests(readme);
        Check.end();
    }

    private static void example(String readme) throws ReflectiveOperationException {
        int from = readme.indexOf("```java\n") + "```java\n".length();
        ShapeJudge judge = new ShapeJudge();
        int answers = 0;
        for (String line : readme.substring(from, readme.indexOf("```", from)).split("\n")) {
            Matcher call = CALL.matcher(line);
            if (!call.matches()) {
                Check.due("a line that is no call", line.isEmpty()
                        || line.equals("ShapeJudge judge = new ShapeJudge();"), true);
                continue;
            }
            Object answer = answer(judge, call.group(1), call.group(2));
            Check.due("what README.md tells for " + line, call.group(3), answer);
            answers += answer == null ? 0 : 1;
        }
        Check.due("that calls were found", answers > 0, true);
    }

    /** What a call of this name answers, null when it answers nothing. */
    private static Object answer(ShapeJudge judge, String name, String arguments)
            throws ReflectiveOperationException {
        String[] texts = arguments.isEmpty() ? new String[0] : arguments.split(", ");
        Object[] values = new Object[texts.length];
        Class<?>[] types = new Class<?>[texts.length];
        for (int i = 0; i < texts.length; i++) {
            values[i] = Integer.valueOf(texts[i]);
            types[i] = int.class;
        }
        return ShapeJudge.class.getMethod(name, types).invoke(judge, values);
    }

    /** The table of calls has each method, with its exceptions in their order. */
    private static void calls(String readme) {
        Set<String> told = new TreeSet<>();
        for (List<String> row : table(readme, "### The calls")) {
            told.add(row.get(0).replaceAll("`|\\(.*", "") + names(row.get(3)));
        }
        Set<String> declared = new TreeSet<>();
        for (Method method : ShapeJudge.class.getDeclaredMethods()) {
            if (Modifier.isPublic(method.getModifiers())) {
                List<String> names = new ArrayList<>();
                for (Class<?> type : method.getExceptionTypes()) {
                    names.add(type.getSimpleName());
                }
                declared.add(method.getName() + names);
            }
        }
        Check.due("the table of calls", told, declared);
    }

    private static List<String> names(String cell) {
        List<String> names = new ArrayList<>();
        Matcher name = Pattern.compile("`(\\w+Exception)`").matcher(cell);
        while (name.find()) {
            names.add(name.group(1));
        }
        return names;
    }

    /** Each kind's name, and of which kinds its parts are. */
    private static void kinds(String readme) {
        List<List<String>> rows = table(readme, "### The kinds");
        Check.due("how many kinds", rows.size(), 7);
        for (List<String> row : rows) {
            int kind = Integer.parseInt(row.get(0));
            Check.due("kind " + kind, Draw.kind(row.get(1)), kind);
            for (int part = 1; part <= 7; part++) {
                ShapeJudge judge = Calls.opened(kind);
                int one = part;
                boolean takes = row.get(2).equals("parts of kind " + part)
                        || row.get(2).equals("parts of any kind");
                Check.due("a part of kind " + part + " in one of " + kind,
                        Check.answer(() -> judge.open(one)),
                        takes ? "2" : "throws.IllegalStateException");
            }
        }
    }

    /** The table of faults has each of them, with the places that are told. */
    private static void faults(String readme) {
        Set<String> told = new TreeSet<>();
        for (List<String> row : table(readme, "### What is wrong, and where")) {
            told.add(row.get(0) + " at " + row.get(3));
        }
        Set<String> seen = new TreeSet<>();
        for (String[] row : FaultsTest.ONE_OF_EACH) {
            ShapeJudge judge = Draw.fresh(row[0]);
            List<String> places = new ArrayList<>();
            int what = judge.judge();
            for (int place = 0; place < 7; place++) {
                if (judge.place(place) != ShapeJudge.NONE) {
                    places.add(String.valueOf(place));
                }
            }
            seen.add(what + " at " + String.join(" ", places));
        }
        Check.due("the table of faults", told, seen);
    }

    private static void tests(String readme) throws IOException {
        Set<String> told = new TreeSet<>();
        for (List<String> row : table(readme, "## How to run its tests")) {
            told.add(row.get(0).replace("`", "") + ".java");
        }
        Set<String> there = new TreeSet<>();
        try (Stream<Path> files = Files.list(Path.of("src/test/java"))) {
            files.map(file -> file.getFileName().toString())
                    .filter(name -> name.endsWith("Test.java")).forEach(there::add);
        }
        Check.due("the list of tests", told, there);
    }

    /** The cells of the first table behind a heading, row by row, without the head of it. */
    private static List<List<String>> table(String readme, String heading) {
        List<List<String>> rows = new ArrayList<>();
        int from = readme.indexOf("|---", Math.max(0, readme.indexOf("\n" + heading + "\n")));
        String[] lines = readme.substring(Math.max(0, from)).split("\n");
        for (int i = 1; i < lines.length && lines[i].startsWith("|"); i++) {
            List<String> cells = new ArrayList<>();
            for (String cell : lines[i].substring(1, lines[i].length() - 1).split("\\|", -1)) {
                cells.add(cell.trim());
            }
            rows.add(cells);
        }
        Check.due("rows in the table under " + heading, rows.isEmpty(), false);
        return rows;
    }
}
