import java.util.ArrayList;
import java.util.Arrays;
import java.util.Collections;
import java.util.List;

/** The same ring, told otherwise: a text such as (0 0,9 0,9 9,0 0), its last point its first. */
final class Rings {
    private Rings() {
    }

    static List<String> bothWays(String ring) {
        List<String> points = points(ring);
        Collections.reverse(points);
        return Arrays.asList(ring, text(points));
    }

    /** Begun at each point, both ways. */
    static List<String> fromEachPoint(String ring) {
        List<String> all = new ArrayList<>();
        for (String way : bothWays(ring)) {
            List<String> points = points(way);
            for (int i = 0; i < points.size(); i++) {
                Collections.rotate(points, 1);
                all.add(text(points));
            }
        }
        return all;
    }

    private static List<String> points(String ring) {
        List<String> points = new ArrayList<>(Arrays.asList(
                ring.substring(1, ring.length() - 1).split(",")));
        if (!points.remove(points.size() - 1).equals(points.get(0))) {
            throw new IllegalStateException("not closed: " + ring);
        }
        return points;
    }

    private static String text(List<String> points) {
        return "(" + String.join(",", points) + "," + points.get(0) + ")";
    }
}
