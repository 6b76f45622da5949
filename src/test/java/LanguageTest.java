import java.lang.reflect.Constructor;
import java.lang.reflect.Field;
import java.lang.reflect.Method;
import java.lang.reflect.Modifier;
import java.nio.file.Files;
import java.nio.file.Path;
import java.util.ArrayList;
import java.util.Arrays;
import java.util.List;
import java.util.Set;
import java.util.TreeSet;
import java.util.regex.Matcher;
import java.util.regex.Pattern;

/** The public face, and those rules of LANGUAGE.md that can be read off the class and its text. */
final class LanguageTest {
    private static final Class<?> JUDGE = ShapeJudge.class;

    private LanguageTest() {
    }

    public static void main(String[] args) throws Exception {
        face();
        classes();
        methods();
        text(Files.readString(Path.of("src/main/java/ShapeJudge.java")));
        Check.end();
    }

    private static void face() {
        Check.due("the class", Modifier.toString(JUDGE.getModifiers()), "public final");
        Set<String> members = new TreeSet<>();
        for (Method method : JUDGE.getDeclaredMethods()) {
            if (!Modifier.isPrivate(method.getModifiers())) {
                members.add(method.toString());
            }
        }
        for (Constructor<?> constructor : JUDGE.getDeclaredConstructors()) {
            members.add(constructor.toString());
        }
        for (Field field : JUDGE.getDeclaredFields()) {
            if (!Modifier.isPrivate(field.getModifiers())) {
                members.add(field.toString());
            }
        }
        String argument = "java.lang.IllegalArgumentException";
        String state = "java.lang.IllegalStateException";
        String unsupported = "java.lang.UnsupportedOperationException";
        String index = "java.lang.IndexOutOfBoundsException";
        String all = String.join(",", argument, state, unsupported);
        Set<String> want = new TreeSet<>(Arrays.asList(
                "public static final int ShapeJudge.NONE",
                "public ShapeJudge()",
                "public int ShapeJudge.clear()",
                "public int ShapeJudge.open(int) throws " + all,
                "public void ShapeJudge.ring() throws " + state + "," + unsupported,
                "public int ShapeJudge.point(int,int) throws " + all,
                "public int ShapeJudge.close() throws " + state,
                "public int ShapeJudge.judge() throws " + state,
                "public int ShapeJudge.place(int) throws " + index));
        Check.due("the face", members, want);
        Check.due("NONE", ShapeJudge.NONE, -1);
    }

    private static List<Class<?>> allClasses() {
        List<Class<?>> all = new ArrayList<>();
        all.add(JUDGE);
        all.addAll(Arrays.asList(JUDGE.getDeclaredClasses()));
        return all;
    }

    private static void classes() {
        Check.due("at most twelve classes", allClasses().size() <= 12, true);
        for (Class<?> inner : JUDGE.getDeclaredClasses()) {
            int modifiers = inner.getModifiers();
            Check.due(inner + " is static", Modifier.isStatic(modifiers), true);
            Check.due(inner + " is hidden",
                    Modifier.isPublic(modifiers) || Modifier.isProtected(modifiers), false);
        }
        for (Class<?> one : allClasses()) {
            int fields = 0;
            for (Field field : one.getDeclaredFields()) {
                boolean isStatic = Modifier.isStatic(field.getModifiers());
                fields += isStatic ? 0 : 1;
                Check.due(field + " is final", !isStatic
                        || Modifier.isFinal(field.getModifiers()), true);
            }
            Check.due("at most twenty fields in " + one, fields <= 20, true);
        }
    }

    private static void methods() {
        Set<String> face = new TreeSet<>();
        for (Method method : JUDGE.getMethods()) {
            if (method.getDeclaringClass() == JUDGE) {
                face.add(method.getName());
            }
        }
        for (Class<?> one : allClasses()) {
            for (Method method : one.getDeclaredMethods()) {
                Check.due(method + " has at most seven parameters",
                        method.getParameterCount() <= 7, true);
                Check.due(method + " is no lambda", method.isSynthetic(), false);
                Check.due(method + " has a name of its own",
                        Modifier.isPublic(method.getModifiers())
                        || !face.contains(method.getName()), true);
            }
            for (Constructor<?> constructor : one.getDeclaredConstructors()) {
                Check.due(constructor + " has at most seven parameters",
                        constructor.getParameterCount() <= 7, true);
            }
        }
    }

    private static void text(String text) {
        String[] unwanted = {"->", "::", "try", "catch", "finally", "synchronized", "assert",
            "package ", "double", "float", "Exact(", "System.", "Object", "hashCode", "static {"};
        String code = text.replaceAll("(?s)/\\*.*?\\*/", "").replaceAll("//[^\n]*", "")
                .replaceAll("\"[^\"\n]*\"", "\"\"");
        for (String word : unwanted) {
            Check.due("the text has " + word, code.contains(word), false);
        }
        for (String line : code.split("\n")) {
            if (line.startsWith("import")) {
                Check.due("an import", line, "import java.util.Arrays;");
            }
        }
        for (char c : text.toCharArray()) {
            if (c > 255) {
                Check.due("a character", c, "below 256");
            }
        }
        library(code);
        exceptions(code);
        lengths(code);
    }

    /** Rule 4: what the class takes from the library stands in the list there. */
    private static void library(String code) {
        Set<String> listed = Set.of("Math.max(", "Math.min(", "Arrays.copyOf(", "Arrays.fill(");
        String classes = "Math|Integer|Long|Short|Byte|Character|Boolean|String|Arrays|System|List";
        for (String use : found("\\b(?:" + classes + ")\\s*\\.\\s*\\w+\\s*\\(?",
                code.replace("import java.util.Arrays;", ""))) {
            String bare = use.replaceAll("\\s", "");
            Check.due("the library's list has " + bare, listed.contains(bare), true);
        }
    }

    /** Rule 6: which exceptions are thrown, each made where it is thrown, with a written text. */
    private static void exceptions(String code) {
        Set<String> made = new TreeSet<>(found("throw\\b[^;]*;", code));
        Set<String> want = new TreeSet<>();
        for (String name : List.of("IllegalArgumentException", "IllegalStateException",
                "IndexOutOfBoundsException", "UnsupportedOperationException")) {
            want.add("throw new " + name + "(\"\");");
        }
        Check.due("what is thrown", made, want);
    }

    /** Rule 11: a method stays short. */
    private static void lengths(String code) {
        String[] lines = code.split("\n");
        int methods = 0;
        for (int i = 0; i < lines.length; i++) {
            if (!beginsMethod(lines[i])) {
                continue;
            }
            methods++;
            String end = lines[i].replaceAll("\\S.*", "") + "}";
            int behind = i + 1;
            while (behind < lines.length && !lines[behind].equals(end)) {
                behind++;
            }
            Check.due("sixty lines are enough for" + lines[i], behind - i < 60, true);
        }
        int named = 0;
        for (Class<?> one : allClasses()) {
            named += one.getDeclaredMethods().length;
        }
        Check.due("all methods were looked at", methods >= named, true);
    }

    /** Methods stand at the indent 4 in the outer class, at 8 in those inside; so may an if. */
    private static boolean beginsMethod(String line) {
        return line.matches("( {4}| {8})[A-Za-z][^=;]*\\([^=;]*");
    }

    private static List<String> found(String pattern, String code) {
        List<String> all = new ArrayList<>();
        Matcher matcher = Pattern.compile(pattern).matcher(code);
        while (matcher.find()) {
            all.add(matcher.group());
        }
        return all;
    }
}
