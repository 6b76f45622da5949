import java.util.ArrayList;
import java.util.Arrays;
import java.util.HashSet;
import java.util.List;
import java.util.Set;
import java.util.TreeMap;
import java.util.TreeSet;

/**
 * The document once more, word by word and by other ways than ShapeJudge takes: fractions for
 * points in common, angles for left, a point a hundred-thousandth along for 'behind its beginning',
 * counting of a graph's edges for 'in a round'. For points up to some hundred only.
 */
final class NaiveJudge {
    private static final long FINE = 100003;

    private static final class Node {
        final int kind;
        final List<Node> parts = new ArrayList<>();
        final List<List<long[]>> rings = new ArrayList<>();
        final List<long[]> points = new ArrayList<>();

        Node(int kind) {
            this.kind = kind;
        }
    }

    /** A segment from (x, y) by (dx, dy). */
    private static final class Seg {
        int part, ring, number, at;
        long x, y, dx, dy;
        List<Seg> all;

        Seg following() {
            return all.get((at + 1) % all.size());
        }
    }

    /** A point (x / d, y / d), d over 0. */
    private static final class Spot {
        final long x, y, d;

        Spot(long x, long y, long d) {
            this.x = d < 0 ? -x : x;
            this.y = d < 0 ? -y : y;
            this.d = Math.abs(d);
        }

        boolean is(long px, long py) {
            return x == px * d && y == py * d;
        }
    }

    private Node whole;
    private final List<Node> open = new ArrayList<>();
    private int points = 0;
    private int numbers = 0;
    private final int[] places = new int[7];

    NaiveJudge() {
        Arrays.fill(places, -1);
    }

    int clear() {
        int before = numbers;
        whole = null;
        open.clear();
        points = 0;
        numbers = 0;
        Arrays.fill(places, -1);
        return before;
    }

    private Node top() {
        return open.isEmpty() ? null : open.get(open.size() - 1);
    }

    int open(int kind) {
        if (kind < 1 || kind > 7) {
            throw new IllegalArgumentException();
        }
        if (whole != null) {
            if (top() == null || open.size() == 50
                    || !(top().kind == 7 || top().kind > 3 && top().kind - 3 == kind)) {
                throw new IllegalStateException();
            }
        }
        if (numbers + 2 > 4096) {
            throw new UnsupportedOperationException();
        }
        Node node = new Node(kind);
        if (whole == null) {
            whole = node;
        } else {
            top().parts.add(node);
        }
        numbers += 2;
        open.add(node);
        return open.size();
    }

    void ring() {
        if (top() == null || top().kind != 3) {
            throw new IllegalStateException();
        }
        if (numbers + 1 > 4096) {
            throw new UnsupportedOperationException();
        }
        numbers++;
        top().rings.add(new ArrayList<>());
    }

    int point(int x, int y) {
        if (Math.abs((long) x) > 1000000000 || Math.abs((long) y) > 1000000000) {
            throw new IllegalArgumentException();
        }
        List<long[]> row = null;
        if (top() != null && top().kind == 3 && !top().rings.isEmpty()) {
            row = top().rings.get(top().rings.size() - 1);
        } else if (top() != null && top().kind < 3) {
            row = top().points;
        }
        if (row == null || top().kind == 1 && row.size() == 1) {
            throw new IllegalStateException();
        }
        if (points == 4096) {
            throw new UnsupportedOperationException();
        }
        row.add(new long[] {x, y});
        return ++points;
    }

    int close() {
        if (open.isEmpty()) {
            throw new IllegalStateException();
        }
        open.remove(open.size() - 1);
        return open.size();
    }

    int place(int what) {
        if (what < 0 || what > 6) {
            throw new IndexOutOfBoundsException();
        }
        return places[what];
    }

    int judge() {
        if (whole == null || !open.isEmpty()) {
            throw new IllegalStateException();
        }
        Arrays.fill(places, -1);
        List<Node> shapes = new ArrayList<>();
        number(whole, shapes);
        for (int i = 0; i < shapes.size(); i++) {
            int what = wrongAt(shapes.get(i));
            if (what != 0) {
                places[0] = i;
                return what;
            }
        }
        return 0;
    }

    private static void number(Node node, List<Node> shapes) {
        shapes.add(node);
        for (Node part : node.parts) {
            number(part, shapes);
        }
    }

    private int wrongAt(Node node) {
        if (node.kind == 2) {
            return different(node.points) == 1 ? 2 : 0;
        }
        if (node.kind == 3) {
            return wrongPolygon(node, 0);
        }
        return node.kind == 6 ? wrongMultipolygon(node) : 0;
    }

    private static int different(List<long[]> row) {
        Set<String> set = new HashSet<>();
        for (long[] p : row) {
            set.add(p[0] + "," + p[1]);
        }
        return set.size();
    }

    private int told(int what, int... where) {
        System.arraycopy(where, 0, places, 1, 6);
        return what;
    }

    private static List<Seg> segments(Node polygon, int part, int ring) {
        List<long[]> row = polygon.rings.get(ring);
        List<Seg> all = new ArrayList<>();
        for (int i = 0; i + 1 < row.size(); i++) {
            Seg seg = new Seg();
            seg.x = row.get(i)[0];
            seg.y = row.get(i)[1];
            seg.dx = row.get(i + 1)[0] - seg.x;
            seg.dy = row.get(i + 1)[1] - seg.y;
            seg.part = part;
            seg.ring = ring;
            seg.number = i;
            seg.at = all.size();
            seg.all = all;
            if (seg.dx != 0 || seg.dy != 0) {
                all.add(seg);
            }
        }
        return all;
    }

    private static List<List<Seg>> allRings(Node polygon, int part) {
        List<List<Seg>> rings = new ArrayList<>();
        for (int ring = 0; ring < polygon.rings.size(); ring++) {
            rings.add(segments(polygon, part, ring));
        }
        return rings;
    }

    private static List<Seg> flat(List<List<Seg>> rings) {
        List<Seg> all = new ArrayList<>();
        for (List<Seg> ring : rings) {
            all.addAll(ring);
        }
        return all;
    }

    private int wrongPolygon(Node polygon, int part) {
        for (int ring = 0; ring < polygon.rings.size(); ring++) {
            List<long[]> row = polygon.rings.get(ring);
            if (row.isEmpty() || !Arrays.equals(row.get(0), row.get(row.size() - 1))) {
                return told(1, part, ring, -1, -1, -1, -1);
            }
            if (different(row) < 3) {
                return told(2, part, ring, -1, -1, -1, -1);
            }
        }
        List<List<Seg>> rings = allRings(polygon, part);
        List<Seg> segs = flat(rings);
        for (int i = 0; i < segs.size(); i++) {
            for (int j = i + 1; j < segs.size(); j++) {
                int what = wrongPair(segs.get(i), segs.get(j));
                if (what != 0) {
                    return toldPair(what, segs.get(i), segs.get(j));
                }
            }
        }
        for (int hole = 1; hole < rings.size(); hole++) {
            if (!liesIn(rings.get(hole), rings.get(0))) {
                return told(6, part, hole, -1, -1, -1, -1);
            }
        }
        for (int i = 1; i < rings.size(); i++) {
            for (int j = i + 1; j < rings.size(); j++) {
                if (liesIn(rings.get(i), rings.get(j)) || liesIn(rings.get(j), rings.get(i))) {
                    return told(7, part, i, -1, part, j, -1);
                }
            }
        }
        return hasRound(rings) ? told(8, part, -1, -1, -1, -1, -1) : 0;
    }

    private int toldPair(int what, Seg a, Seg b) {
        return told(what, a.part, a.ring, a.number, b.part, b.ring, b.number);
    }

    private int wrongMultipolygon(Node multi) {
        List<List<List<Seg>>> parts = new ArrayList<>();
        for (int part = 0; part < multi.parts.size(); part++) {
            int what = wrongPolygon(multi.parts.get(part), part);
            if (what != 0) {
                return what;
            }
            parts.add(allRings(multi.parts.get(part), part));
        }
        List<Seg> segs = new ArrayList<>();
        for (List<List<Seg>> part : parts) {
            segs.addAll(flat(part));
        }
        for (Seg a : segs) {
            for (Seg b : segs) {
                int what = a.part < b.part ? wrongPair(a, b) : 0;
                if (what != 0) {
                    return toldPair(what == 3 ? 9 : 10, a, b);
                }
            }
        }
        for (int i = 0; i < parts.size(); i++) {
            for (int j = i + 1; j < parts.size(); j++) {
                if (isInside(parts.get(i), parts.get(j)) || isInside(parts.get(j), parts.get(i))) {
                    return told(11, i, -1, -1, j, -1, -1);
                }
            }
        }
        return 0;
    }

    private static boolean isInside(List<List<Seg>> inner, List<List<Seg>> outer) {
        if (inner.isEmpty() || outer.isEmpty() || !liesIn(inner.get(0), outer.get(0))) {
            return false;
        }
        boolean inHole = false;
        for (int hole = 1; hole < outer.size(); hole++) {
            inHole |= liesIn(inner.get(0), outer.get(hole));
        }
        return !inHole;
    }

    /** All points in common: none, one, or two for more than one. */
    private static List<Spot> common(Seg a, Seg b) {
        List<Spot> spots = new ArrayList<>();
        long qx = b.x - a.x;
        long qy = b.y - a.y;
        long det = a.dx * b.dy - a.dy * b.dx;
        if (det != 0) {
            long t = qx * b.dy - qy * b.dx;
            long u = qx * a.dy - qy * a.dx;
            if (isPart(t, det) && isPart(u, det)) {
                spots.add(new Spot(a.x * det + a.dx * t, a.y * det + a.dy * t, det));
            }
            return spots;
        }
        if (qx * a.dy - qy * a.dx != 0) {
            return spots;
        }
        long square = a.dx * a.dx + a.dy * a.dy;
        long from = qx * a.dx + qy * a.dy;
        long to = from + b.dx * a.dx + b.dy * a.dy;
        long low = Math.max(0, Math.min(from, to));
        long high = Math.min(square, Math.max(from, to));
        if (low <= high) {
            spots.add(new Spot(a.x * square + a.dx * low, a.y * square + a.dy * low, square));
        }
        if (low < high) {
            spots.add(new Spot(a.x * square + a.dx * high, a.y * square + a.dy * high, square));
        }
        return spots;
    }

    private static boolean isPart(long t, long det) {
        return det > 0 ? t >= 0 && t <= det : t <= 0 && t >= det;
    }

    private static boolean begins(Seg s, Spot p) {
        return p.is(s.x, s.y);
    }

    private static boolean ends(Seg s, Spot p) {
        return p.is(s.x + s.dx, s.y + s.dy);
    }

    private static int wrongPair(Seg a, Seg b) {
        List<Spot> spots = common(a, b);
        if (spots.isEmpty()) {
            return 0;
        }
        if (spots.size() > 1) {
            return 3;
        }
        Spot p = spots.get(0);
        if (!begins(a, p) && !ends(a, p) && !begins(b, p) && !ends(b, p)) {
            return 4;
        }
        if (a.all == b.all) {
            boolean follow = a.following() == b && ends(a, p) && begins(b, p)
                    || b.following() == a && ends(b, p) && begins(a, p);
            return follow ? 0 : 5;
        }
        return !begins(a, p) && !begins(b, p) && cross(a, b, p) ? 4 : 0;
    }

    private static long[] wayOn(Seg s, Spot p) {
        Seg on = ends(s, p) ? s.following() : s;
        return new long[] {(on.x + on.dx) * p.d - p.x, (on.y + on.dy) * p.d - p.y};
    }

    private static long[] wayBack(Seg s, Spot p) {
        return new long[] {s.x * p.d - p.x, s.y * p.d - p.y};
    }

    private static boolean cross(Seg lower, Seg higher, Spot p) {
        long[] on = wayOn(lower, p);
        long[] back = wayBack(lower, p);
        return isBetween(on, wayOn(higher, p), back) ^ isBetween(on, wayBack(higher, p), back);
    }

    /** Whether the angle from on, left round, to the way is over none and below that to back. */
    private static boolean isBetween(long[] on, long[] way, long[] back) {
        long[] turnedWay = turned(on, way);
        long[] turnedBack = turned(on, back);
        boolean along = turnedWay[1] == 0 && turnedWay[0] > 0;
        return !along && isSmallerAngle(turnedWay, turnedBack);
    }

    /** The way as it is seen when on leads to the right. */
    private static long[] turned(long[] on, long[] way) {
        return new long[] {on[0] * way[0] + on[1] * way[1], on[0] * way[1] - on[1] * way[0]};
    }

    private static boolean isSmallerAngle(long[] a, long[] b) {
        int halfA = a[1] > 0 || a[1] == 0 && a[0] > 0 ? 0 : 1;
        int halfB = b[1] > 0 || b[1] == 0 && b[0] > 0 ? 0 : 1;
        if (halfA != halfB) {
            return halfA < halfB;
        }
        return java.math.BigInteger.valueOf(a[0]).multiply(java.math.BigInteger.valueOf(b[1]))
                .compareTo(java.math.BigInteger.valueOf(a[1])
                        .multiply(java.math.BigInteger.valueOf(b[0]))) > 0;
    }

    /** Where the point (x / FINE, y / FINE) is: 0 on the ring, 1 within, -1 outside. */
    private static int where(long x, long y, List<Seg> ring) {
        boolean odd = false;
        for (Seg s : ring) {
            long px = x - s.x * FINE;
            long py = y - s.y * FINE;
            long along = px * s.dx + py * s.dy;
            if (px * s.dy == py * s.dx && along >= 0
                    && along <= (s.dx * s.dx + s.dy * s.dy) * FINE) {
                return 0;
            }
            boolean fromBelow = s.y * FINE <= y;
            boolean toBelow = (s.y + s.dy) * FINE <= y;
            if (fromBelow != toBelow) {
                // px < py * dx / dy
                boolean hit = s.dy > 0 ? px * s.dy < py * s.dx : px * s.dy > py * s.dx;
                odd ^= hit;
            }
        }
        return odd ? 1 : -1;
    }

    private static boolean liesIn(List<Seg> inner, List<Seg> outer) {
        for (Seg s : inner) {
            int where = where(s.x * FINE, s.y * FINE, outer);
            if (where != 0) {
                return where == 1;
            }
        }
        Seg first = inner.get(0);
        int where = where(first.x * FINE + first.dx, first.y * FINE + first.dy, outer);
        if (where == 0) {
            throw new AssertionError("a first segment along a ring that it does not share");
        }
        return where == 1;
    }

    /** A graph has a round when it has more lines than its pieces need. */
    private static boolean hasRound(List<List<Seg>> rings) {
        TreeMap<String, TreeSet<Integer>> touches = new TreeMap<>();
        for (int i = 0; i < rings.size(); i++) {
            for (int j = i + 1; j < rings.size(); j++) {
                for (Seg a : rings.get(i)) {
                    for (Seg b : rings.get(j)) {
                        for (Spot p : common(a, b)) {
                            String key = p.x / p.d + "," + p.y / p.d;
                            touches.computeIfAbsent(key, k -> new TreeSet<>()).add(i);
                            touches.get(key).add(j);
                        }
                    }
                }
            }
        }
        int lines = 0;
        int[] piece = new int[rings.size()];
        for (int i = 0; i < piece.length; i++) {
            piece[i] = i;
        }
        for (int round = 0; round < piece.length; round++) {
            for (TreeSet<Integer> at : touches.values()) {
                int low = Integer.MAX_VALUE;
                for (int ring : at) {
                    low = Math.min(low, piece[ring]);
                }
                for (int ring : at) {
                    piece[ring] = low;
                }
            }
        }
        Set<Integer> pieces = new HashSet<>();
        for (int i : piece) {
            pieces.add(i);
        }
        for (TreeSet<Integer> at : touches.values()) {
            lines += at.size();
        }
        return lines > touches.size() + rings.size() - pieces.size();
    }
}
