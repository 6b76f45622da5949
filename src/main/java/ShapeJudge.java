import java.util.Arrays;

/**
 * Judges shapes in the plane: whether lines and polygons are right, and if not, what the first
 * fault is, and where. Points are whole numbers of at most 1000000000, so that every product of
 * two differences, and the difference of two such products, is exact in a long.
 */
public final class ShapeJudge {
    public static final int NONE = -1;

    private static final int POINT = 1;
    private static final int LINESTRING = 2;
    private static final int POLYGON = 3;
    private static final int MULTIPOINT = 4;
    private static final int MULTIPOLYGON = 6;
    private static final int GEOMETRYCOLLECTION = 7;

    private static final int RIGHT = 0;
    private static final int OPEN = 1;
    private static final int FEW = 2;
    private static final int SHARED = 3;
    private static final int CROSSED = 4;
    private static final int TOUCHES = 5;
    private static final int OUT = 6;
    private static final int NESTED = 7;
    private static final int SPLIT = 8;
    private static final int PARTS_SHARED = 9;
    private static final int PARTS_CROSSED = 10;
    private static final int INSIDE = 11;

    private static final int MAX_OPEN = 50;
    private static final int MAX_POINTS = 4096;
    private static final int MAX_NUMBERS = 4096;
    private static final int NUMBERS_OF_A_SHAPE = 2;
    private static final int NUMBERS_OF_A_RING = 1;
    private static final int MAX_COORDINATE = 1000000000;
    private static final int PLACES = 7;
    private static final int FIRST_ROOM = 32;

    private final Shapes shapes;
    private final Finding finding;
    private final Inspector inspector;
    private boolean judged;

    public ShapeJudge() {
        shapes = new Shapes();
        finding = new Finding();
        inspector = new Inspector(shapes, finding);
    }

    public int clear() {
        int numbers = shapes.numbers();
        shapes.forget();
        finding.forget();
        judged = false;
        return numbers;
    }

    public int open(int kind)
            throws IllegalArgumentException, IllegalStateException, UnsupportedOperationException {
        if (kind < POINT || kind > GEOMETRYCOLLECTION) {
            throw new IllegalArgumentException("there is no such kind");
        }
        if (!shapes.canTake(kind)) {
            throw new IllegalStateException("no shape of this kind can begin here");
        }
        if (shapes.numbers() > MAX_NUMBERS - NUMBERS_OF_A_SHAPE) {
            throw new UnsupportedOperationException("there would be too many numbers");
        }
        return shapes.begin(kind);
    }

    public void ring() throws IllegalStateException, UnsupportedOperationException {
        if (shapes.openKind() != POLYGON) {
            throw new IllegalStateException("no polygon is open");
        }
        if (shapes.numbers() > MAX_NUMBERS - NUMBERS_OF_A_RING) {
            throw new UnsupportedOperationException("there would be too many numbers");
        }
        shapes.beginRing();
    }

    public int point(int x, int y)
            throws IllegalArgumentException, IllegalStateException, UnsupportedOperationException {
        if (!isCoordinate(x) || !isCoordinate(y)) {
            throw new IllegalArgumentException("x or y is too far out");
        }
        if (!shapes.canTakePoint()) {
            throw new IllegalStateException("nothing that can have a point is open");
        }
        if (shapes.pointCount() >= MAX_POINTS) {
            throw new UnsupportedOperationException("there would be too many points");
        }
        return shapes.addPoint(x, y);
    }

    public int close() throws IllegalStateException {
        if (shapes.openCount() == 0) {
            throw new IllegalStateException("no shape is open");
        }
        return shapes.finish();
    }

    public int judge() throws IllegalStateException {
        if (!shapes.isWhole()) {
            throw new IllegalStateException("there is no whole shape");
        }
        // A whole shape stays as it is until clear(), so one look is enough, and saves the room.
        if (!judged) {
            judged = true;
            for (int shape = 0; shape < shapes.count() && !finding.isMade(); shape++) {
                inspector.inspect(shape);
            }
        }
        return finding.what();
    }

    public int place(int what) throws IndexOutOfBoundsException {
        if (what < 0 || what >= PLACES) {
            throw new IndexOutOfBoundsException("there is no such place");
        }
        return finding.where(what);
    }

    private static boolean isCoordinate(int value) {
        return value >= -MAX_COORDINATE && value <= MAX_COORDINATE;
    }

    /** Whole numbers in a row that grows, so that a small shape takes little room. */
    private static final class Row {
        private int[] items = new int[FIRST_ROOM];
        private int size;

        int size() {
            return size;
        }

        /** The item at an index, 0 where there is none. */
        int get(int index) {
            return index >= 0 && index < size ? items[index] : 0;
        }

        int last() {
            return get(size - 1);
        }

        void add(int item) {
            if (size >= items.length) {
                items = Arrays.copyOf(items, 2 * items.length);
            }
            items[size] = item;
            size++;
        }

        void dropLast() {
            if (size > 0) {
                size--;
            }
        }

        void empty() {
            size = 0;
        }
    }

    /**
     * The shape as it is built. A CHAIN is the row of points of a POINT, a LINESTRING or a ring.
     * All chains, and all their points, stand in the order in which they came, so where one ends
     * is told by where the next one begins.
     */
    private static final class Shapes {
        private final Row kinds = new Row();
        private final Row outers = new Row();
        private final Row firstChains = new Row();
        private final Row firstPoints = new Row();
        private final Row xs = new Row();
        private final Row ys = new Row();
        private final Row openShapes = new Row();
        private int ringCount;

        void forget() {
            kinds.empty();
            outers.empty();
            firstChains.empty();
            firstPoints.empty();
            xs.empty();
            ys.empty();
            openShapes.empty();
            ringCount = 0;
        }

        int numbers() {
            return NUMBERS_OF_A_SHAPE * kinds.size() + NUMBERS_OF_A_RING * ringCount;
        }

        int count() {
            return kinds.size();
        }

        int kind(int shape) {
            return kinds.get(shape);
        }

        int pointCount() {
            return xs.size();
        }

        int openCount() {
            return openShapes.size();
        }

        /** The kind of the shape that was opened last, 0 when none is open. */
        int openKind() {
            return openShapes.size() > 0 ? kinds.get(openShapes.last()) : 0;
        }

        boolean isWhole() {
            return kinds.size() > 0 && openShapes.size() == 0;
        }

        boolean canTake(int kind) {
            if (kinds.size() == 0) {
                return true;
            }
            if (openShapes.size() >= MAX_OPEN) {
                return false;
            }
            int outer = openKind();
            if (outer == GEOMETRYCOLLECTION) {
                return true;
            }
            // The kinds 4, 5 and 6 have parts of the kinds 1, 2 and 3.
            return outer >= MULTIPOINT && kind - POINT == outer - MULTIPOINT;
        }

        boolean canTakePoint() {
            int kind = openKind();
            if (kind == POINT) {
                return firstPoints.last() == xs.size();
            }
            if (kind == POLYGON) {
                return firstChains.get(openShapes.last()) < firstPoints.size();
            }
            return kind == LINESTRING;
        }

        int begin(int kind) {
            outers.add(openShapes.size() > 0 ? openShapes.last() : NONE);
            openShapes.add(kinds.size());
            kinds.add(kind);
            firstChains.add(firstPoints.size());
            if (kind == POINT || kind == LINESTRING) {
                firstPoints.add(xs.size());
            }
            return openShapes.size();
        }

        void beginRing() {
            ringCount++;
            firstPoints.add(xs.size());
        }

        int addPoint(int x, int y) {
            xs.add(x);
            ys.add(y);
            return xs.size();
        }

        int finish() {
            openShapes.dropLast();
            return openShapes.size();
        }

        /** How many different points a LINESTRING has, 3 standing for all more. */
        int differentInLine(int shape) {
            return differentPoints(firstChains.get(shape));
        }

        /**
         * The polygons that are looked at together with a shape: a MULTIPOLYGON's parts, or a
         * POLYGON itself, but nothing for one that was looked at with its MULTIPOLYGON.
         */
        Polygon[] polygonsOf(int shape) {
            int count = countPolygons(shape);
            int first = kinds.get(shape) == MULTIPOLYGON ? shape + 1 : shape;
            Polygon[] polygons = new Polygon[Math.max(0, count)];
            for (int part = 0; part < count; part++) {
                polygons[part] = toPolygon(first + part, part);
            }
            return polygons;
        }

        private int countPolygons(int shape) {
            if (kinds.get(shape) == POLYGON) {
                return kinds.get(outers.get(shape)) == MULTIPOLYGON ? 0 : 1;
            }
            if (kinds.get(shape) != MULTIPOLYGON) {
                return 0;
            }
            // Polygons have no parts of their own, so a MULTIPOLYGON's stand right behind it.
            int behind = shape + 1;
            while (behind < kinds.size() && outers.get(behind) == shape) {
                behind++;
            }
            return behind - shape - 1;
        }

        private Polygon toPolygon(int shape, int part) {
            int first = firstChains.get(shape);
            int behind = shape + 1 < kinds.size() ? firstChains.get(shape + 1) : firstPoints.size();
            Ring[] rings = new Ring[Math.max(0, behind - first)];
            for (int number = 0; number < rings.length; number++) {
                rings[number] = toRing(first + number, part, number);
            }
            return new Polygon(part, rings);
        }

        private Ring toRing(int chain, int part, int number) {
            int first = firstPoints.get(chain);
            int behind = behindChain(chain);
            Ring ring = new Ring(part, number, Math.max(0, behind - first));
            ring.closed = first < behind && isSame(first, behind - 1);
            ring.differentPoints = differentPoints(chain);
            for (int at = first; at + 1 < behind; at++) {
                if (!isSame(at, at + 1)) {
                    ring.add(new Segment(ring, at - first,
                            xs.get(at), ys.get(at), xs.get(at + 1), ys.get(at + 1)));
                }
            }
            return ring;
        }

        private int behindChain(int chain) {
            return chain + 1 < firstPoints.size() ? firstPoints.get(chain + 1) : xs.size();
        }

        private int differentPoints(int chain) {
            int first = firstPoints.get(chain);
            int behind = behindChain(chain);
            int second = NONE;
            for (int at = first + 1; at < behind; at++) {
                if (isSame(at, first)) {
                    continue;
                }
                if (second == NONE) {
                    second = at;
                } else if (!isSame(at, second)) {
                    return 3;
                }
            }
            if (first >= behind) {
                return 0;
            }
            return second == NONE ? 1 : 2;
        }

        private boolean isSame(int one, int other) {
            return xs.get(one) == xs.get(other) && ys.get(one) == ys.get(other);
        }
    }

    /** The smallest upright box round some points: most things are apart since their boxes are. */
    private static final class Box {
        private int lowX = MAX_COORDINATE;
        private int lowY = MAX_COORDINATE;
        private int highX = -MAX_COORDINATE;
        private int highY = -MAX_COORDINATE;

        void take(int x, int y) {
            lowX = Math.min(lowX, x);
            lowY = Math.min(lowY, y);
            highX = Math.max(highX, x);
            highY = Math.max(highY, y);
        }

        boolean has(int x, int y) {
            return x >= lowX && x <= highX && y >= lowY && y <= highY;
        }

        boolean isApartFrom(Box other) {
            return lowX > other.highX || highX < other.lowX
                    || lowY > other.highY || highY < other.lowY;
        }
    }

    /** A segment of a ring, and the next one there. */
    private static final class Segment {
        private final Ring ring;
        private final int number;
        private final int fromX;
        private final int fromY;
        private final int toX;
        private final int toY;
        private final Box box;
        private Segment next;

        Segment(Ring ring, int number, int fromX, int fromY, int toX, int toY) {
            this.ring = ring;
            this.number = number;
            this.fromX = fromX;
            this.fromY = fromY;
            this.toX = toX;
            this.toY = toY;
            box = new Box();
            box.take(fromX, fromY);
            box.take(toX, toY);
        }

        boolean beginsAt(int x, int y) {
            return fromX == x && fromY == y;
        }

        boolean isNeighbourOf(Segment other) {
            return next == other || other.next == this;
        }

        /** Over 0 for a point to the left of the segment's line, below 0 to the right, 0 on it. */
        long side(int x, int y) {
            return ((long) toX - fromX) * ((long) y - fromY)
                    - ((long) toY - fromY) * ((long) x - fromX);
        }

        boolean passes(int x, int y) {
            return box.has(x, y) && side(x, y) == 0;
        }

        /**
         * Whether a line to the right crosses this segment, from a point that is not on it, or
         * from one on it that is moved by next to nothing in the direction (dx, dy), off it.
         */
        boolean isHitFrom(int x, int y, long dx, long dy) {
            boolean fromAbove = fromY > y || fromY == y && dy < 0;
            boolean toAbove = toY > y || toY == y && dy < 0;
            if (fromAbove == toAbove) {
                return false;
            }
            long side = side(x, y);
            if (side == 0) {
                side = ((long) toX - fromX) * dy - ((long) toY - fromY) * dx;
            }
            return toAbove ? side > 0 : side < 0;
        }

        /**
         * Whether the way from (x, y), where this segment does not begin, to (wayX, wayY) lies
         * strictly to the left of the ring, which comes along this segment there and goes on.
         */
        boolean hasOnLeft(int x, int y, int wayX, int wayY) {
            Segment goingOn = toX == x && toY == y && next != null ? next : this;
            long onX = (long) goingOn.toX - x;
            long onY = (long) goingOn.toY - y;
            long backX = (long) fromX - x;
            long backY = (long) fromY - y;
            long dx = (long) wayX - x;
            long dy = (long) wayY - y;
            long turn = onX * backY - onY * backX;
            boolean behindOn = onX * dy - onY * dx > 0;
            boolean beforeBack = dx * backY - dy * backX > 0;
            if (turn > 0) {
                return behindOn && beforeBack;
            }
            if (turn < 0) {
                return behindOn || beforeBack;
            }
            boolean straightOn = onX * backX + onY * backY < 0;
            return straightOn && behindOn;
        }
    }

    /** A ring of a polygon, as the segments that it has. */
    private static final class Ring {
        private final int part;
        private final int number;
        private final Box box;
        private final Segment[] segments;
        private int count;
        private boolean closed;
        private int differentPoints;

        Ring(int part, int number, int room) {
            this.part = part;
            this.number = number;
            box = new Box();
            segments = new Segment[Math.max(0, room)];
        }

        void add(Segment segment) {
            if (count >= segments.length) {
                return;
            }
            if (count > 0) {
                segments[count - 1].next = segment;
                segment.next = segments[0];
            }
            segments[count] = segment;
            count++;
            box.take(segment.fromX, segment.fromY);
            box.take(segment.toX, segment.toY);
        }

        boolean passes(int x, int y) {
            if (!box.has(x, y)) {
                return false;
            }
            for (int i = 0; i < count; i++) {
                if (segments[i].passes(x, y)) {
                    return true;
                }
            }
            return false;
        }

        boolean hasCorner(int x, int y) {
            for (int i = 0; i < count; i++) {
                if (segments[i].beginsAt(x, y)) {
                    return true;
                }
            }
            return false;
        }

        /** Whether a point, moved by next to nothing in the direction (dx, dy), lies within. */
        boolean holds(int x, int y, long dx, long dy) {
            if (!box.has(x, y)) {
                return false;
            }
            boolean within = false;
            for (int i = 0; i < count; i++) {
                if (segments[i].isHitFrom(x, y, dx, dy)) {
                    within = !within;
                }
            }
            return within;
        }

        boolean liesIn(Ring other) {
            for (int i = 0; i < count; i++) {
                Segment segment = segments[i];
                if (!other.passes(segment.fromX, segment.fromY)) {
                    return other.holds(segment.fromX, segment.fromY, 0, 0);
                }
            }
            if (count == 0) {
                return false;
            }
            Segment first = segments[0];
            return other.holds(first.fromX, first.fromY,
                    (long) first.toX - first.fromX, (long) first.toY - first.fromY);
        }
    }

    /** A polygon: its rings, the first one the shell. */
    private static final class Polygon {
        private final int part;
        private final Ring[] rings;

        Polygon(int part, Ring[] rings) {
            this.part = part;
            this.rings = rings;
        }

        /** Whether the shell lies in the other's shell, and in none of its holes. */
        boolean isInside(Polygon other) {
            if (rings.length == 0 || other.rings.length == 0) {
                return false;
            }
            if (!rings[0].liesIn(other.rings[0])) {
                return false;
            }
            for (int hole = 1; hole < other.rings.length; hole++) {
                if (rings[0].liesIn(other.rings[hole])) {
                    return false;
                }
            }
            return true;
        }

        /** Whether rings that touch are joined in a round, so that the inside falls apart. */
        boolean isSplit() {
            int[] groups = new int[rings.length];
            for (int i = 0; i < groups.length; i++) {
                groups[i] = i;
            }
            // Rings that do not cross touch only where at least one of them has a corner.
            for (int i = 0; i < rings.length; i++) {
                Ring ring = rings[i];
                for (int k = 0; k < ring.count; k++) {
                    Segment segment = ring.segments[k];
                    if (isNewCorner(i, segment) && joinsInRound(segment, groups)) {
                        return true;
                    }
                }
            }
            return false;
        }

        /** Whether no ring before the one of this number has a corner where the segment begins. */
        private boolean isNewCorner(int number, Segment segment) {
            for (int i = 0; i < number && i < rings.length; i++) {
                if (rings[i].box.has(segment.fromX, segment.fromY)
                        && rings[i].hasCorner(segment.fromX, segment.fromY)) {
                    return false;
                }
            }
            return true;
        }

        /** Joins the rings that pass where the segment begins, unless two of them were joined. */
        private boolean joinsInRound(Segment segment, int[] groups) {
            int group = NONE;
            for (int i = 0; i < rings.length && i < groups.length; i++) {
                if (!rings[i].passes(segment.fromX, segment.fromY)) {
                    continue;
                }
                if (group == NONE) {
                    group = groups[i];
                } else if (groups[i] == group) {
                    return true;
                } else {
                    renameGroup(groups, groups[i], group);
                }
            }
            return false;
        }

        private static void renameGroup(int[] groups, int old, int fresh) {
            for (int i = 0; i < groups.length; i++) {
                if (groups[i] == old) {
                    groups[i] = fresh;
                }
            }
        }
    }

    /** What two segments have in common, and whether that is a fault. */
    private static final class Meeting {
        private static final int NOWHERE = 0;
        private static final int AMID_BOTH = 1;
        private static final int AT_AN_END = 2;
        private static final int ALONG = 3;

        private int x;
        private int y;

        /** The fault of two segments, the first one of the lower ring if there are two rings. */
        int fault(Segment one, Segment other) {
            int how = meet(one, other);
            if (how == NOWHERE) {
                return RIGHT;
            }
            if (how == ALONG) {
                return SHARED;
            }
            if (how == AMID_BOTH) {
                return CROSSED;
            }
            if (one.ring == other.ring) {
                // Neighbours with just one point in common have it where they follow each other.
                return one.isNeighbourOf(other) ? RIGHT : TOUCHES;
            }
            return ringsCross(one, other) ? CROSSED : RIGHT;
        }

        private int meet(Segment one, Segment other) {
            if (one.box.isApartFrom(other.box)) {
                return NOWHERE;
            }
            long otherFrom = one.side(other.fromX, other.fromY);
            long otherTo = one.side(other.toX, other.toY);
            if (otherFrom == 0 && otherTo == 0) {
                return meetOnOneLine(one.box, other.box);
            }
            long oneFrom = other.side(one.fromX, one.fromY);
            long oneTo = other.side(one.toX, one.toY);
            if (isOneSide(otherFrom, otherTo) || isOneSide(oneFrom, oneTo)) {
                return NOWHERE;
            }
            if (otherFrom == 0) {
                return meetAt(other.fromX, other.fromY);
            }
            if (otherTo == 0) {
                return meetAt(other.toX, other.toY);
            }
            if (oneFrom == 0) {
                return meetAt(one.fromX, one.fromY);
            }
            return oneTo == 0 ? meetAt(one.toX, one.toY) : AMID_BOTH;
        }

        private static boolean isOneSide(long from, long to) {
            return from > 0 && to > 0 || from < 0 && to < 0;
        }

        /** For segments of one line whose boxes are not apart: what their boxes share tells. */
        private int meetOnOneLine(Box one, Box other) {
            int lowX = Math.max(one.lowX, other.lowX);
            int lowY = Math.max(one.lowY, other.lowY);
            boolean isPoint = lowX == Math.min(one.highX, other.highX)
                    && lowY == Math.min(one.highY, other.highY);
            return isPoint ? meetAt(lowX, lowY) : ALONG;
        }

        private int meetAt(int atX, int atY) {
            x = atX;
            y = atY;
            return AT_AN_END;
        }

        /**
         * Whether the rings cross where the segments meet. A ring that has a corner there is
         * looked at once only, with the segment that leads there.
         */
        private boolean ringsCross(Segment lower, Segment higher) {
            if (lower.beginsAt(x, y) || higher.beginsAt(x, y)) {
                return false;
            }
            boolean ends = higher.toX == x && higher.toY == y;
            Segment goingOn = ends && higher.next != null ? higher.next : higher;
            boolean comesFromLeft = lower.hasOnLeft(x, y, higher.fromX, higher.fromY);
            boolean goesToLeft = lower.hasOnLeft(x, y, goingOn.toX, goingOn.toY);
            return comesFromLeft != goesToLeft;
        }
    }

    /** What a judging found wrong, and where. */
    private static final class Finding {
        private static final int SHAPE = 0;
        private static final int ONE = 1;
        private static final int OTHER = 4;

        private int what;
        private final int[] places;

        Finding() {
            places = new int[PLACES];
            Arrays.fill(places, NONE);
        }

        int what() {
            return what;
        }

        boolean isMade() {
            return what != RIGHT;
        }

        int where(int index) {
            return index >= 0 && index < places.length ? places[index] : NONE;
        }

        void forget() {
            what = RIGHT;
            Arrays.fill(places, NONE);
        }

        void tell(int fault, int shape) {
            what = fault;
            places[SHAPE] = shape;
        }

        void tellOne(int part, int ring, int segment) {
            tellAt(ONE, part, ring, segment);
        }

        void tellOther(int part, int ring, int segment) {
            tellAt(OTHER, part, ring, segment);
        }

        private void tellAt(int first, int part, int ring, int segment) {
            if (first >= 0 && first + 2 < places.length) {
                places[first] = part;
                places[first + 1] = ring;
                places[first + 2] = segment;
            }
        }
    }

    /** Looks for what is wrong, in the document's order; what it finds first is told. */
    private static final class Inspector {
        private final Shapes shapes;
        private final Finding finding;
        private final Meeting meeting;
        private int shape;

        Inspector(Shapes shapes, Finding finding) {
            this.shapes = shapes;
            this.finding = finding;
            meeting = new Meeting();
        }

        void inspect(int number) {
            shape = number;
            if (shapes.kind(shape) == LINESTRING) {
                inspectLine();
                return;
            }
            Polygon[] parts = shapes.polygonsOf(shape);
            boolean found = false;
            for (int i = 0; i < parts.length && !found; i++) {
                Polygon part = parts[i];
                found = inspectRings(part) || inspectSegments(part.rings, false)
                        || inspectHoles(part) || inspectPairsOfHoles(part)
                        || inspectWholeness(part);
            }
            if (!found && parts.length > 1 && !inspectSegments(allRings(parts), true)) {
                inspectPairsOfParts(parts);
            }
        }

        private void inspectLine() {
            if (shapes.differentInLine(shape) == 1) {
                finding.tell(FEW, shape);
            }
        }

        private static Ring[] allRings(Polygon[] parts) {
            int count = 0;
            for (int i = 0; i < parts.length; i++) {
                count += parts[i].rings.length;
            }
            Ring[] all = new Ring[count];
            int at = 0;
            for (int i = 0; i < parts.length; i++) {
                Ring[] rings = parts[i].rings;
                for (int j = 0; j < rings.length && at < count; j++) {
                    all[at] = rings[j];
                    at++;
                }
            }
            return all;
        }

        private boolean inspectRings(Polygon polygon) {
            for (int i = 0; i < polygon.rings.length; i++) {
                Ring ring = polygon.rings[i];
                if (!ring.closed || ring.differentPoints < 3) {
                    finding.tell(ring.closed ? FEW : OPEN, shape);
                    finding.tellOne(polygon.part, i, NONE);
                    return true;
                }
            }
            return false;
        }

        /** Looks at the pairs of segments, either within the parts or of different parts. */
        private boolean inspectSegments(Ring[] rings, boolean ofDifferentParts) {
            for (int i = 0; i < rings.length; i++) {
                Ring ring = rings[i];
                for (int k = 0; k < ring.count; k++) {
                    for (int j = i; j < rings.length; j++) {
                        boolean different = ring.part != rings[j].part;
                        int first = i == j ? k + 1 : 0;
                        if (different == ofDifferentParts
                                && inspectSegment(ring.segments[k], rings[j], first)) {
                            return true;
                        }
                    }
                }
            }
            return false;
        }

        /** Looks at one segment with those of a ring, from the one that stands at first on. */
        private boolean inspectSegment(Segment one, Ring ring, int first) {
            if (first < 0 || one.box.isApartFrom(ring.box)) {
                return false;
            }
            for (int i = first; i < ring.count; i++) {
                Segment other = ring.segments[i];
                int fault = meeting.fault(one, other);
                if (fault != RIGHT) {
                    tellSegments(fault, one, other);
                    return true;
                }
            }
            return false;
        }

        private void tellSegments(int fault, Segment one, Segment other) {
            int told = fault;
            if (one.ring.part != other.ring.part) {
                told = fault == SHARED ? PARTS_SHARED : PARTS_CROSSED;
            }
            finding.tell(told, shape);
            finding.tellOne(one.ring.part, one.ring.number, one.number);
            finding.tellOther(other.ring.part, other.ring.number, other.number);
        }

        private boolean inspectHoles(Polygon polygon) {
            Ring[] rings = polygon.rings;
            for (int i = 1; i < rings.length; i++) {
                if (!rings[i].liesIn(rings[0])) {
                    finding.tell(OUT, shape);
                    finding.tellOne(polygon.part, i, NONE);
                    return true;
                }
            }
            return false;
        }

        private boolean inspectPairsOfHoles(Polygon polygon) {
            Ring[] rings = polygon.rings;
            for (int i = 1; i < rings.length; i++) {
                for (int j = i + 1; j < rings.length; j++) {
                    if (rings[i].liesIn(rings[j]) || rings[j].liesIn(rings[i])) {
                        finding.tell(NESTED, shape);
                        finding.tellOne(polygon.part, i, NONE);
                        finding.tellOther(polygon.part, j, NONE);
                        return true;
                    }
                }
            }
            return false;
        }

        private boolean inspectWholeness(Polygon polygon) {
            if (polygon.rings.length < 2 || !polygon.isSplit()) {
                return false;
            }
            finding.tell(SPLIT, shape);
            finding.tellOne(polygon.part, NONE, NONE);
            return true;
        }

        private void inspectPairsOfParts(Polygon[] parts) {
            for (int i = 0; i < parts.length; i++) {
                for (int j = i + 1; j < parts.length; j++) {
                    if (parts[i].isInside(parts[j]) || parts[j].isInside(parts[i])) {
                        finding.tell(INSIDE, shape);
                        finding.tellOne(i, NONE, NONE);
                        finding.tellOther(j, NONE, NONE);
                        return;
                    }
                }
            }
        }
    }
}
