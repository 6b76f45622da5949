import java.lang.reflect.Constructor;
import java.lang.reflect.Field;
import java.lang.reflect.Method;
import java.lang.reflect.Modifier;
import java.nio.file.Files;
import java.nio.file.Path;
import java.util.ArrayList;
import java.util.Arrays;
import java.util.List;
import java.util.Set;
import java.util.TreeSet;

/** The public face, and those rules of LANGUAGE.md that can be read off the class and its text. */
final class LanguageTest {
    private static final Class<?> JUDGE = ShapeJudge.class;

    private LanguageTest() {
    }

    public static void main(String[] args) throws Exception {
        face();
        classes();
        methods();
        text(Files.readString(Path.of("src/main/java/ShapeJudge.java")));
        Check.end();
    }

    private static void face() {
        Check.due("the class", Modifier.toString(JUDGE.getModifiers()), "public final");
        Set<String> members = new TreeSet<>();
        for (Method method : JUDGE.getDeclaredMethods()) {
            if (!Modifier.isPrivate(method.getModifiers())) {
                members.add(method.toString());
            }
        }
        for (Constructor<?> constructor : JUDGE.getDeclaredConstructors()) {
            members.add(constructor.toString());
        }
        for (Field field : JUDGE.getDeclaredFields()) {
            if (!Modifier.isPrivate(field.getModifiers())) {
                members.add(field.toString());
            }
        }
        String argument = "java.lang.IllegalArgumentException";
        String state = "java.lang.IllegalStateException";
        String unsupported = "java.lang.UnsupportedOperationException";
        String index = "java.lang.IndexOutOfBoundsException";
        String all = String.join(",", argument, state, unsupported);
        Set<String> want = new TreeSet<>(Arrays.asList(
                "public static final int ShapeJudge.NONE",
                "public ShapeJudge()",
                "public int ShapeJudge.clear()",
                "public int ShapeJudge.open(int) throws " + all,
                "public void ShapeJudge.ring() throws " + state + "," + unsupported,
                "public int ShapeJudge.point(int,int) throws " + all,
                "public int ShapeJudge.close() throws " + state,
                "public int ShapeJudge.judge() throws " + state,
                "public int ShapeJudge.place(int) throws " + index));
        Check.due("the face", members, want);
        Check.due("NONE", ShapeJudge.NONE, -1);
    }

    private static List<Class<?>> allClasses() {
        List<Class<?>> all = new ArrayList<>();
        all.add(JUDGE);
        all.addAll(Arrays.asList(JUDGE.getDeclaredClasses()));
        return all;
    }

    private static void classes() {
        Check.due("at most twelve classes", allClasses().size() <= 12, true);
        for (Class<?> inner : JUDGE.getDeclaredClasses()) {
            int modifiers = inner.getModifiers();
            Check.due(inner + " is static", Modifier.isStatic(modifiers), true);
            Check.due(inner + " is hidden",
                    Modifier.isPublic(modifiers) || Modifier.isProtected(modifiers), false);
        }
        for (Class<?> one : allClasses()) {
            int fields = 0;
            for (Field field : one.getDeclaredFields()) {
                boolean isStatic = Modifier.isStatic(field.getModifiers());
                fields += isStatic ? 0 : 1;
                Check.due(field + " is final", !isStatic
                        || Modifier.isFinal(field.getModifiers()), true);
            }
            Check.due("at most twenty fields in " + one, fields <= 20, true);
        }
    }

    private static void methods() {
        Set<String> face = new TreeSet<>();
        for (Method method : JUDGE.getMethods()) {
            if (method.getDeclaringClass() == JUDGE) {
                face.add(method.getName());
            }
        }
        for (Class<?> one : allClasses()) {
            for (Method method : one.getDeclaredMethods()) {
                Check.due(method + " has at most seven parameters",
                        method.getParameterCount() <= 7, true);
                Check.due(method + " is no lambda", method.isSynthetic(), false);
                Check.due(method + " has a name of its own",
                        Modifier.isPublic(method.getModifiers())
                        || !face.contains(method.getName()), true);
            }
            for (Constructor<?> constructor : one.getDeclaredConstructors()) {
                Check.due(constructor + " has at most seven parameters",
                        constructor.getParameterCount() <= 7, true);
            }
        }
    }

    private static void text(String text) {
        String[] unwanted = {"->", "::", "try", "catch", "finally", "synchronized", "assert",
            "package ", "double", "float", "Exact(", "System.", "Object", "hashCode", "static {"};
        String code = text.replaceAll("(?s)/\\*.*?\\*/", "").replaceAll("//[^\n]*", "")
                .replaceAll("\"[^\"\n]*\"", "\"\"");
        for (String word : unwanted) {
            Check.due("the text has " + word, code.contains(word), false);
        }
        for (String line : code.split("\n")) {
            if (line.startsWith("import")) {
                Check.due("an import", line, "import java.util.Arrays;");
            }
        }
        for (char c : text.toCharArray()) {
            if (c > 255) {
                Check.due("a character", c, "below 256");
            }
        }
    }
}
