import java.util.Arrays;
import java.util.List;

/**
 * Builds a shape from a text such as POLYGON((0 0,9 0,9 9,0 0),(1 1,..)): what stands between two
 * brackets may be nothing at all.
 */
final class Draw {
    private static final List<String> KINDS = Arrays.asList("", "POINT", "LINESTRING", "POLYGON",
            "MULTIPOINT", "MULTILINESTRING", "MULTIPOLYGON", "GEOMETRYCOLLECTION");

    private final ShapeJudge judge;
    private final String text;
    private int at = 0;

    private Draw(ShapeJudge judge, String text) {
        this.judge = judge;
        this.text = text;
    }

    static void on(ShapeJudge judge, String text) {
        Draw draw = new Draw(judge, text.replaceAll(",\\s+", ","));
        draw.named();
        if (draw.at != draw.text.length()) {
            throw new IllegalStateException("not read to its end: " + text);
        }
    }

    static ShapeJudge fresh(String text) {
        ShapeJudge judge = new ShapeJudge();
        on(judge, text);
        return judge;
    }

    /** The number of a kind, -1 for a name that none has. */
    static int kind(String name) {
        return KINDS.indexOf(name);
    }

    /** What is wrong, and all the places, in one text. */
    static String verdict(ShapeJudge judge) {
        StringBuilder told = new StringBuilder();
        told.append(judge.judge()).append(":");
        for (int what = 0; what < 7; what++) {
            told.append(" ").append(judge.place(what));
        }
        return told.toString();
    }

    private void named() {
        int bracket = text.indexOf('(', at);
        int kind = kind(text.substring(at, bracket));
        if (kind < 1) {
            throw new IllegalStateException("no kind at " + text.substring(at));
        }
        at = bracket;
        shape(kind);
    }

    private void shape(int kind) {
        judge.open(kind);
        if (kind < 3) {
            points();
        } else {
            at++;
            while (text.charAt(at) != ')') {
                if (kind == 3) {
                    judge.ring();
                    points();
                } else if (kind == 7) {
                    named();
                } else {
                    shape(kind - 3);
                }
                if (text.charAt(at) == ',') {
                    at++;
                }
            }
            at++;
        }
        judge.close();
    }

    private void points() {
        int end = text.indexOf(')', at);
        String inner = text.substring(at + 1, end);
        at = end + 1;
        if (inner.isEmpty()) {
            return;
        }
        for (String point : inner.split(",")) {
            String[] xy = point.trim().split(" +");
            judge.point(Integer.parseInt(xy[0]), Integer.parseInt(xy[1]));
        }
    }
}
