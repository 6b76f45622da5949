import java.util.function.Consumer;

/** Terms, but for what is wrong with a shape: sentence by sentence, each with its limits. */
final class TermsTest {
    private static final int FAR = 1000000000;
    private static final String RIGHT = "0: -1 -1 -1 -1 -1 -1 -1";
    private static final String OUT = "6: 0 0 1 -1 -1 -1 -1";
    private static final String SQUARE = "(0 0,10 0,10 10,0 10,0 0)";

    private TermsTest() {
    }

    public static void main(String[] args) {
        words().run();
        last().run();
        Check.end();
    }

    /** What stands before 'WHAT IS WRONG'. */
    static Sentences words() {
        return new Sentences("Terms")
                .add("A SHAPE is built part by part, of kinds 1 POINT, 2 LINESTRING, 3 POLYGON, "
                        + "4 MULTIPOINT, 5 MULTILINESTRING, 6 MULTIPOLYGON, 7 GEOMETRYCOLLECTION.",
                        TermsTest::kinds)
                .add("A POINT has at most one point,", TermsTest::pointsOfPoint)
                .add("a LINESTRING points,", TermsTest::pointsOfLine)
                .add("a POLYGON RINGS of points,", TermsTest::ringsOfPolygon)
                .add("the others parts: 4 of kind 1, 5 of 2, 6 of 3, 7 of any;",
                        TermsTest::partsOfOthers)
                .add("at most 50 lie within one another.", TermsTest::fifty)
                .add("Points have x and y from -1000000000 to 1000000000.", TermsTest::farPoints)
                .add("At most 4096 points,", TermsTest::allPoints)
                .add("and 4096 NUMBERS: two for each shape, one for each ring.",
                        TermsTest::allNumbers)
                .add("Shapes are NUMBERED from 0, a shape before its parts;",
                        TermsTest::numbersOfShapes)
                .add("parts of one, rings of a polygon (the first one is its SHELL, the others "
                        + "HOLES), points of a ring likewise.", TermsTest::numbersOfTheRest)
                .add("The SEGMENTS of a ring lead from each point to the next one, if these "
                        + "differ;", TermsTest::segments)
                .add("they have the number of the point where they begin.",
                        TermsTest::numbersOfSegments)
                .add("NEIGHBOURS are a segment and the next one in the ring (the first one behind "
                        + "the last).", TermsTest::neighbours)
                .add("TWO RINGS CROSS at a point, if both pass there, each from somewhere to "
                        + "somewhere,", TermsTest::ringsPass)
                .add("and of the two ways from there of the one with the higher number (of a "
                        + "later part)", TermsTest::higherRing)
                .add("just one lies strictly to the left of the lower one: between the way to "
                        + "where that goes on and the way back, left round", TermsTest::left)
                .add("(nowhere, when these two have one direction).", TermsTest::oneDirection)
                .add("A POINT LIES WITHIN a ring, if it is on none of its segments,",
                        TermsTest::onSegments)
                .add("and a line to the right from there crosses an odd number of them.",
                        TermsTest::lineToTheRight)
                .add("A RING LIES IN another one that it does not cross, if its first segment's "
                        + "beginning that is not on the other one lies within that;",
                        TermsTest::firstBeginning)
                .add("if all are on it: if the first segment, behind its beginning, does.",
                        TermsTest::allBeginningsOn);
    }

    /** What stands behind it. */
    static Sentences last() {
        return new Sentences("Terms")
                .add("Of several exceptions the first one told is thrown.",
                        TermsTest::severalExceptions)
                .add("The constants: `NONE = -1`: Nothing there.", TermsTest::constants);
    }

    private static void due(String shape, String verdict) {
        Check.due(shape, Draw.verdict(Draw.fresh(shape)), verdict);
    }

    private static void kinds() {
        String state = "throws.IllegalStateException";
        String[] takes = {"", "1 " + state + " " + state, "1 2 " + state,
            state + " " + state + " nothing", state + " " + state + " " + state};
        for (int kind = 1; kind <= 7; kind++) {
            ShapeJudge judge = Calls.opened(kind);
            String got = Check.answer(() -> judge.point(1, 2)) + " "
                    + Check.answer(() -> judge.point(3, 4)) + " " + Calls.ring(judge);
            Check.due("point, point and ring of " + kind, got, takes[Math.min(kind, 4)]);
        }
        Check.dueThrow("the kind before the first", () -> new ShapeJudge().open(0),
                Calls.ARGUMENT);
        Check.dueThrow("the kind behind the last", () -> new ShapeJudge().open(8),
                Calls.ARGUMENT);
    }

    private static void pointsOfPoint() {
        due("POINT()", RIGHT);
        ShapeJudge judge = Calls.opened(4);
        for (int part = 1; part <= 3; part++) {
            judge.open(1);
            Check.due("its point", judge.point(5, 5), part);
            Check.dueThrow("a second one", () -> judge.point(6, 6), Calls.STATE);
            Check.dueThrow("the same once more", () -> judge.point(5, 5), Calls.STATE);
            judge.close();
        }
        judge.close();
        Check.due("judge()", judge.judge(), 0);
    }

    private static void pointsOfLine() {
        due("LINESTRING()", RIGHT);
        ShapeJudge judge = Calls.opened(2);
        for (int points = 1; points <= 500; points++) {
            Check.due("its points", judge.point(points % 3, 0), points);
        }
        judge.close();
        Check.due("judge()", judge.judge(), 0);
    }

    private static void ringsOfPolygon() {
        due("POLYGON()", RIGHT);
        due("POLYGON(())", "1: 0 0 0 -1 -1 -1 -1");
        ShapeJudge judge = Calls.opened(3);
        Check.dueThrow("a point before a ring", () -> judge.point(0, 0), Calls.STATE);
        for (int rings = 0; rings < 100; rings++) {
            Check.due("its rings", Calls.ring(judge), "nothing");
            Check.due("their points", judge.point(rings, 0), 2 * rings + 1);
            Check.due("their points", judge.point(rings, 1), 2 * rings + 2);
        }
        Check.due("numbers", judge.clear(), 102);
    }

    private static void partsOfOthers() {
        for (int outer = 1; outer <= 7; outer++) {
            for (int inner = 1; inner <= 7; inner++) {
                ShapeJudge judge = Calls.opened(outer);
                int kind = inner;
                boolean fits = outer == 7 || outer > 3 && inner == outer - 3;
                Check.due("open(" + inner + ") in " + outer, Check.answer(() -> judge.open(kind)),
                        fits ? "2" : "throws.IllegalStateException");
                Check.due("numbers of " + outer + " with " + inner, judge.clear(), fits ? 4 : 2);
            }
        }
        for (int outer = 4; outer <= 7; outer++) {
            int kind = outer;
            ShapeJudge judge = Calls.opened(outer);
            Calls.repeat(100, () -> Calls.empty(judge, kind == 7 ? 6 : kind - 3));
            judge.close();
            Check.due("judge() of 100 empty parts of " + outer, judge.judge(), 0);
            Check.due("numbers", judge.clear(), 202);
        }
    }

    private static void fifty() {
        ShapeJudge judge = Calls.made(j -> Calls.repeat(49, () -> j.open(7)));
        for (int kind = 1; kind <= 7; kind++) {
            Check.due("the 50th, a " + kind, judge.open(kind), 50);
            Check.dueThrow("the 51st in it", () -> judge.open(1), Calls.STATE);
            Check.due("close()", judge.close(), 49);
        }
        Check.due("the 50th once more", judge.open(3), 50);
        judge.ring();
        Check.due("a point that lies deep", judge.point(1, 1), 1);
        Calls.repeat(50, () -> judge.close());
        Check.due("what lies deep is judged", Draw.verdict(judge), "2: 56 0 0 -1 -1 -1 -1");

        ShapeJudge deep = Calls.made(j -> Calls.repeat(48, () -> j.open(7)));
        deep.open(6);
        Check.due("the 50th, a part of a MULTIPOLYGON", deep.open(3), 50);
        deep.close();
        deep.close();
        deep.open(7);
        deep.open(6);
        Check.dueThrow("the 51st, a part of a MULTIPOLYGON", () -> deep.open(3), Calls.STATE);

        ShapeJudge wide = Calls.opened(7);
        for (int i = 0; i < 120; i++) {
            Check.due("beside one another there are more", wide.open(7), 2);
            wide.close();
        }
    }

    private static void farPoints() {
        ShapeJudge judge = Calls.opened(2);
        int[] far = {-FAR, FAR};
        int points = 0;
        for (int x : far) {
            for (int y : far) {
                points++;
                Check.due("point(" + x + ", " + y + ")", judge.point(x, y), points);
                int pastX = x < 0 ? x - 1 : x + 1;
                int pastY = y < 0 ? y - 1 : y + 1;
                Check.dueThrow("point(" + pastX + ", " + y + ")", () -> judge.point(pastX, y),
                        Calls.ARGUMENT);
                Check.dueThrow("point(" + x + ", " + pastY + ")", () -> judge.point(x, pastY),
                        Calls.ARGUMENT);
            }
        }
        Check.dueThrow("the least x", () -> judge.point(Integer.MIN_VALUE, 0), Calls.ARGUMENT);
        Check.dueThrow("the least y", () -> judge.point(0, Integer.MIN_VALUE), Calls.ARGUMENT);
        Check.dueThrow("the most x", () -> judge.point(Integer.MAX_VALUE, 0), Calls.ARGUMENT);
        Check.dueThrow("the most y", () -> judge.point(0, Integer.MAX_VALUE), Calls.ARGUMENT);
        due("LINESTRING(1000000000 0,999999999 0)", RIGHT);
        farPolygons();
        farParts();
    }

    /** No product of differences is told wrongly, as far out as points may be. */
    private static void farPolygons() {
        String wide = "(-1000000000 -1000000000,1000000000 -1000000000,1000000000 1000000000,"
                + "-1000000000 1000000000,-1000000000 -1000000000)";
        due("POLYGON(" + wide + ")", RIGHT);
        due("POLYGON(" + wide + ",(-999999999 -999999999,999999999 -999999999,"
                + "999999999 999999999,-999999999 -999999999))", RIGHT);
        due("POLYGON((-1000000000 -1000000000,1000000000 1000000000,1000000000 -1000000000,"
                + "-1000000000 1000000000,-1000000000 -1000000000))", "4: 0 0 0 0 0 0 2");
        due("POLYGON(" + wide + ",(-1000000000 -1000000000,1000000000 999999999,"
                + "999999999 999999999,-1000000000 -1000000000))", "8: 0 0 -1 -1 -1 -1 -1");
        // Two slim rings that share a bit of the diagonal.
        due("POLYGON((-1000000000 -1000000000,1000000000 999999999,1000000000 1000000000,"
                + "-1000000000 -1000000000),(-1000000000 -1000000000,999999999 999999999,"
                + "999999998 999999998,-1000000000 -1000000000))", "3: 0 0 0 2 0 1 0");
    }

    /** A part beside the diagonal: missed by next to nothing, touched, and crossed. */
    private static void farParts() {
        String slim = "((-1000000000 -1000000000,1000000000 999999999,1000000000 1000000000,"
                + "-1000000000 -1000000000))";
        due("MULTIPOLYGON(" + slim + ",((-999999999 -999999998,999999999 1000000000,"
                + "-1000000000 1000000000,-999999999 -999999998)))", RIGHT);
        due("MULTIPOLYGON(" + slim + ",((-999999999 -999999998,999999999 999999999,"
                + "-1000000000 1000000000,-999999999 -999999998)))", RIGHT);
        due("MULTIPOLYGON(" + slim + ",((-999999999 -999999998,1000000000 999999999,"
                + "-1000000000 1000000000,-999999999 -999999998)))", "10: 0 0 0 2 1 0 0");
    }

    private static void allPoints() {
        ShapeJudge judge = Calls.opened(7, 2);
        for (int points = 1; points <= 4090; points++) {
            Check.due("in a LINESTRING", judge.point(points, 0), points);
        }
        judge.close();
        judge.open(3);
        judge.ring();
        Check.due("in a ring", judge.point(0, 0), 4091);
        Check.due("in a ring", judge.point(1, 0), 4092);
        Check.due("in a ring", judge.point(0, 1), 4093);
        Check.due("in a ring", judge.point(0, 0), 4094);
        judge.close();
        judge.open(1);
        Check.due("in a POINT", judge.point(0, 0), 4095);
        judge.close();
        judge.open(1);
        Check.due("the last one", judge.point(0, 0), 4096);
        judge.close();
        judge.open(1);
        Check.dueThrow("one more, in a POINT", () -> judge.point(0, 0), Calls.UNSUPPORTED);
        judge.close();
        judge.open(2);
        Check.dueThrow("one more, in a LINESTRING", () -> judge.point(0, 0), Calls.UNSUPPORTED);
        judge.close();
        judge.open(3);
        judge.ring();
        Check.dueThrow("one more, in a ring", () -> judge.point(0, 0), Calls.UNSUPPORTED);
        judge.close();
        judge.close();
        Check.due("the ring without points", Draw.verdict(judge), "1: 7 0 0 -1 -1 -1 -1");
    }

    private static void allNumbers() {
        for (int kind = 1; kind <= 7; kind++) {
            int part = kind;
            ShapeJudge judge = Calls.opened(7);
            Calls.repeat(2047, () -> Calls.empty(judge, part));
            Check.dueThrow("the 2049th shape, a " + kind, () -> judge.open(part),
                    Calls.UNSUPPORTED);
            Check.due("numbers of 2048 shapes", judge.clear(), 4096);
        }
        ShapeJudge judge = Calls.opened(3);
        Calls.repeat(4094, () -> judge.ring());
        Check.due("the 4095th ring", Calls.ring(judge), "throws.UnsupportedOperationException");
        Check.due("a point has none", judge.point(0, 0), 1);
        Check.due("numbers of a shape and 4094 rings", judge.clear(), 4096);
        // One number is left: enough for a ring, but not for a shape.
        Calls.open(judge, 6, 3);
        Calls.repeat(4091, () -> judge.ring());
        judge.close();
        Check.dueThrow("a shape with 4095 numbers", () -> judge.open(3), Calls.UNSUPPORTED);
        Check.due("4095 numbers", judge.clear(), 4095);
        judge.open(6);
        Calls.repeat(2045, () -> Calls.empty(judge, 3));
        judge.open(3);
        Check.due("a ring with 4094 numbers", Calls.ring(judge), "nothing");
        Check.due("a ring with 4095 numbers", Calls.ring(judge), "nothing");
        Check.due("4096 numbers", judge.clear(), 4096);
    }

    private static void numbersOfShapes() {
        String tree = "GEOMETRYCOLLECTION(GEOMETRYCOLLECTION(LINESTRING@,LINESTRING@),"
                + "MULTILINESTRING(@,@),POINT(),GEOMETRYCOLLECTION(GEOMETRYCOLLECTION("
                + "LINESTRING@)),LINESTRING@)";
        int[] numbers = {2, 3, 5, 6, 10, 11};
        for (int wrong = 0; wrong < numbers.length; wrong++) {
            String shape = tree;
            for (int line = 0; line < numbers.length; line++) {
                shape = shape.replaceFirst("@", line == wrong ? "(1 1)" : "(1 1,2 2)");
            }
            due(shape, "2: " + numbers[wrong] + " -1 -1 -1 -1 -1 -1");
        }
        due("LINESTRING(1 1)", "2: 0 -1 -1 -1 -1 -1 -1");
        due("GEOMETRYCOLLECTION(MULTIPOLYGON((),()),LINESTRING(1 1))", "2: 4 -1 -1 -1 -1 -1 -1");
    }

    private static void numbersOfTheRest() {
        String[] parts = {"((0 0,4 0,4 4,0 0))", "((10 0,14 0,14 4,10 0))",
            "((20 0,24 0,24 4,20 0))"};
        for (int wrong = 0; wrong < 3; wrong++) {
            String[] all = parts.clone();
            all[wrong] = "((0 0))";
            due("MULTIPOLYGON(" + String.join(",", all) + ")", "2: 0 " + wrong + " 0 -1 -1 -1 -1");
        }
        String[] rings = {SQUARE, "(1 1,2 1,2 2,1 1)", "(5 5,6 5,6 6,5 5)"};
        for (int wrong = 0; wrong < 3; wrong++) {
            String[] all = rings.clone();
            all[wrong] = "()";
            due("POLYGON(" + String.join(",", all) + ")", "1: 0 0 " + wrong + " -1 -1 -1 -1");
        }
        // A ring is a shell by its place, not by its size or its direction.
        due("POLYGON((1 1,2 1,2 2,1 1)," + SQUARE + ")", OUT);
        due("POLYGON((0 0,0 10,10 10,10 0,0 0),(1 1,2 1,2 2,1 1))", RIGHT);
        due("POLYGON(" + SQUARE + ",(1 1,2 1,2 2,1 1))", RIGHT);
        // Points of each ring anew.
        due("POLYGON(" + SQUARE + ",(1 1,5 5,5 1,1 5,1 1))", "4: 0 0 1 0 0 1 2");
    }

    private static void segments() {
        // No segment leads from a point to itself: none that touches, or is shared, is there.
        due("POLYGON((0 0,0 0,4 0,4 0,4 0,4 4,0 0,0 0))", RIGHT);
        due("POLYGON(" + SQUARE + ",(1 1,1 1,2 1,2 2,2 2,1 1,1 1))", RIGHT);
        due("MULTIPOLYGON(((0 0,4 0,4 4,4 4,0 0)),((4 4,4 4,8 4,8 8,4 4)))", RIGHT);
        // Points that differ by x or by y alone do differ.
        due("POLYGON((0 0,1 0,1 1,0 1,0 0))", RIGHT);
        due("POLYGON((0 0,4 0,4 4,3 4,3 -1,0 0))", "4: 0 0 0 0 0 0 3");
        // The last one leads to the last point, which is the first one.
        due("POLYGON((0 0,4 0,4 4,2 -1,0 0))", "4: 0 0 0 0 0 0 2");
        due("POLYGON((0 0,9 0,9 9,4 5,4 -1,0 0))", "4: 0 0 0 0 0 0 3");
    }

    private static void numbersOfSegments() {
        due("POLYGON((0 0,10 10,10 0,0 10,0 0))", "4: 0 0 0 0 0 0 2");
        // Repeated points before the one, and between it and the other one.
        due("POLYGON((0 0,0 0,0 0,10 10,10 0,0 10,0 0))", "4: 0 0 0 2 0 0 4");
        due("POLYGON((0 0,10 10,10 10,10 0,10 0,0 10,0 0))", "4: 0 0 0 0 0 0 4");
        due("POLYGON((0 0,0 0,4 0,4 0,4 4,4 2,0 2,0 0))", "3: 0 0 0 3 0 0 4");
        // The last one, with and without a repeated last point.
        due("POLYGON((0 0,10 0,10 10,4 10,4 -4,0 0))", "4: 0 0 0 0 0 0 3");
        due("POLYGON((0 0,10 0,10 10,0 10,10 5,14 5,0 0,0 0))", "5: 0 0 0 1 0 0 3");
        due("POLYGON((0 0,10 5,10 0,8 8,0 0,0 0))", "4: 0 0 0 0 0 0 2");
        due("POLYGON((5 5,9 0,9 9,0 9,20 5,5 5,5 5))", "4: 0 0 0 1 0 0 3");
    }

    private static void neighbours() {
        due("POLYGON((0 0,4 0,4 4,0 0))", RIGHT);
        // The last one and the first one, also past repeated points.
        due("POLYGON((2 0,10 0,10 10,0 10,2 0))", RIGHT);
        due("POLYGON((2 0,2 0,10 0,10 10,0 10,2 0,2 0))", RIGHT);
        // On one line, also there.
        due("POLYGON((2 0,4 0,4 4,0 0,2 0))", RIGHT);
        due("POLYGON((0 0,2 0,2 0,4 0,4 4,0 0))", RIGHT);
        // The next one but one is none, nor is the last one to the second.
        due("POLYGON((0 0,4 0,4 4,2 0,0 0))", "5: 0 0 0 0 0 0 2");
        due("POLYGON((0 0,4 0,4 4,2 0,0 4,0 0))", "5: 0 0 0 0 0 0 2");
        due("POLYGON((4 4,0 0,4 0,4 -4,9 0,4 0,4 4))", "5: 0 0 0 1 0 0 4");
    }

    private static void ringsPass() {
        // Amid both.
        due("POLYGON(" + SQUARE + ",(5 5,15 5,5 6,5 5))", "4: 0 0 0 1 0 1 0");
        // Amid the lower one, at a corner of the higher one.
        due("POLYGON(" + SQUARE + ",(5 5,10 5,15 6,5 9,5 5))", "4: 0 0 0 1 0 1 0");
        due("POLYGON(" + SQUARE + ",(5 5,10 5,5 6,5 5))", RIGHT);
        // At a corner of the lower one, amid the higher one.
        due("POLYGON(" + SQUARE + ",(8 8,12 12,8 9,8 8))", "4: 0 0 0 1 0 1 0");
        due("POLYGON((0 0,10 0,10 10,5 5,0 10,0 0),(3 5,3 3,7 3,7 5,3 5))", RIGHT);
        // At a corner of both.
        due("POLYGON(" + SQUARE + ",(8 8,10 10,12 9,8 8))", "4: 0 0 0 1 0 1 0");
        due("POLYGON(" + SQUARE + ",(8 8,10 10,8 7,8 8))", RIGHT);
        // From the last segment to the first one: of the lower, of the higher. Of both, rings can
        // only touch: rings that cross do so twice, and this pair of segments is the last of all.
        due("POLYGON(" + SQUARE + ",(3 5,0 0,-3 1,3 5))", "4: 0 0 0 3 0 1 0");
        due("POLYGON(" + SQUARE + ",(3 5,0 0,2 1,3 5))", RIGHT);
        due("POLYGON(" + SQUARE + ",(10 10,12 12,5 12,5 8,10 10))", "4: 0 0 0 1 0 1 3");
        due("POLYGON(" + SQUARE + ",(10 10,8 9,5 8,9 7,10 10))", RIGHT);
        due("POLYGON(" + SQUARE + ",(0 0,2 1,3 5,0 0))", RIGHT);
        // At points that are repeated.
        due("POLYGON((0 0,10 0,10 10,10 10,0 10,0 0),(8 8,10 10,10 10,12 9,8 8))",
                "4: 0 0 0 1 0 1 0");
        due("POLYGON((0 0,10 0,10 10,10 10,0 10,0 0),(8 8,10 10,10 10,8 7,8 8))", RIGHT);
        due("POLYGON((0 0,0 0,10 0,10 10,0 10,0 0,0 0),(3 5,0 0,0 0,-3 1,3 5))",
                "4: 0 0 0 4 0 1 0");
        due("POLYGON((0 0,0 0,10 0,10 10,0 10,0 0,0 0),(0 0,0 0,2 1,3 5,0 0,0 0))", RIGHT);
    }

    private static void higherRing() {
        String corner = "(8 4,10 10,4 10,8 4)";
        // It goes on as the square does: of its two ways, one is left of the square ..
        due("POLYGON(" + SQUARE + "," + corner + ")", "4: 0 0 0 1 0 1 0");
        due("MULTIPOLYGON((" + SQUARE + "),(" + corner + "))", "10: 0 0 0 1 1 0 0");
        // .. but of the square's two ways, none is left of it.
        due("POLYGON(" + corner + "," + SQUARE + ")", "3: 0 0 0 1 0 1 2");
        due("MULTIPOLYGON((" + corner + "),(" + SQUARE + "))", "9: 0 0 0 1 1 0 2");
        // The later part is the higher one, though its ring has the lower number; and so on.
        String frame = "((-5 -5,20 -5,20 20,-5 20,-5 -5)," + SQUARE + ")";
        due("MULTIPOLYGON(" + frame + ",(" + corner + "))", "10: 0 0 1 1 1 0 0");
        due("MULTIPOLYGON((" + corner + ")," + frame + ")", "9: 0 0 0 1 1 1 2");
    }

    private static void left() {
        // A lower one that turns left, at (10, 10), and what comes from within and from without.
        due("POLYGON(" + SQUARE + ",(5 7,10 10,7 5,5 7))", RIGHT);
        due("POLYGON(" + SQUARE + ",(15 7,10 10,17 5,15 7))", OUT);
        due("POLYGON(" + SQUARE + ",(9 9,10 10,15 7,9 9))", "4: 0 0 0 1 0 1 0");
        due("POLYGON(" + SQUARE + ",(15 12,10 10,9 9,15 12))", "4: 0 0 0 1 0 1 0");
        // The same turned round: a lower one that turns right.
        String round = "(0 0,0 10,10 10,10 0,0 0)";
        due("POLYGON(" + round + ",(5 7,10 10,7 5,5 7))", RIGHT);
        due("POLYGON(" + round + ",(15 7,10 10,17 5,15 7))", OUT);
        due("POLYGON(" + round + ",(15 20,10 10,20 5,15 20))", OUT);
        due("POLYGON(" + round + ",(9 9,10 10,15 7,9 9))", "4: 0 0 0 1 0 1 0");
        due("POLYGON(" + round + ",(15 12,10 10,9 9,15 12))", "4: 0 0 0 1 0 1 0");
        // A corner inwards, with the hole round it; and one that goes out there.
        due("POLYGON((0 0,10 0,10 5,5 5,5 10,0 10,0 0),(5 5,3 7,2 2,7 3,5 5))", RIGHT);
        due("POLYGON((0 0,0 10,5 10,5 5,10 5,10 0,0 0),(5 5,7 3,2 2,3 7,5 5))", RIGHT);
        due("POLYGON((0 0,10 0,10 5,5 5,5 10,0 10,0 0),(3 3,5 5,6 6,7 4,3 3))", "4: 0 0 0 2 0 1 0");
        due("POLYGON((0 0,0 10,5 10,5 5,10 5,10 0,0 0),(3 3,5 5,6 6,3 4,3 3))", "4: 0 0 0 2 0 1 0");
        // One that goes straight on.
        String straight = "(0 0,10 0,10 5,10 10,0 10,0 0)";
        due("POLYGON(" + straight + ",(5 7,10 5,5 4,5 7))", RIGHT);
        due("POLYGON(" + straight + ",(15 7,10 5,15 4,15 7))", OUT);
        due("POLYGON(" + straight + ",(5 7,10 5,15 7,5 7))", "4: 0 0 0 1 0 1 0");
        along();
        leftByLittle();
    }

    /** Strictly: what leads along the lower one is not to the left of it. */
    private static void along() {
        // Along the way on: from the left, and from the right.
        due("POLYGON(" + SQUARE + ",(8 4,10 10,4 10,8 4))", "4: 0 0 0 1 0 1 0");
        due("POLYGON(" + SQUARE + ",(8 14,10 10,4 10,8 14))", "3: 0 0 0 2 0 1 1");
        // Along the way back: from the left, and from the right.
        due("POLYGON(" + SQUARE + ",(5 8,10 10,10 4,5 8))", "4: 0 0 0 1 0 1 0");
        due("POLYGON(" + SQUARE + ",(12 12,10 10,10 4,12 12))", "3: 0 0 0 1 0 1 1");
        // Along a straight way, on and back.
        due("POLYGON(" + SQUARE + ",(5 5,10 5,10 8,5 5))", "4: 0 0 0 1 0 1 0");
        due("POLYGON(" + SQUARE + ",(15 5,10 5,10 8,15 5))", "3: 0 0 0 1 0 1 1");
        due("POLYGON(" + SQUARE + ",(5 5,10 5,10 2,5 5))", "4: 0 0 0 1 0 1 0");
        due("POLYGON(" + SQUARE + ",(15 5,10 5,10 2,15 5))", "3: 0 0 0 1 0 1 1");
        // Straight ahead and straight back of a corner, which is not along it.
        due("POLYGON(" + SQUARE + ",(10 14,10 10,14 10,10 14))", OUT);
        due("POLYGON(" + SQUARE + ",(9 9,10 10,10 14,9 9))", "4: 0 0 0 1 0 1 0");
    }

    /** Where each turn, and each way from it, is as little to the left as can be. */
    private static void leftByLittle() {
        String turnsLeft = "((0 1,0 0,1 0,0 1))";
        String turnsRight = "((1 0,0 0,0 1,1 0))";
        for (String lower : new String[] {turnsLeft, turnsRight}) {
            due("MULTIPOLYGON(" + lower + ",((1 1,0 0,-3 -5,1 1)))", "10: 0 0 0 0 1 0 0");
            due("MULTIPOLYGON(" + lower + ",((-3 -5,0 0,1 1,-3 -5)))", "10: 0 0 0 0 1 0 0");
            due("MULTIPOLYGON(" + lower + ",((1 1,0 0,-1 5,1 1)))", "10: 0 0 0 0 1 0 0");
            due("MULTIPOLYGON(" + lower + ",((1 1,0 0,5 -1,1 1)))", "10: 0 0 0 0 1 0 0");
            due("MULTIPOLYGON(" + lower + ",((-1 5,0 0,5 -1,-5 -5,-1 5)))", RIGHT);
            due("MULTIPOLYGON(" + lower + ",((-1 1,0 0,1 -1,-5 -5,-1 1)))", RIGHT);
        }
    }

    /** Where the lower one turns back, it is told to share before it is held against others. */
    private static void oneDirection() {
        due("POLYGON((0 0,10 0,10 10,10 5,0 5,0 0),(8 4,10 10,12 4,8 4))", "3: 0 0 0 1 0 0 2");
        due("POLYGON((10 10,10 5,0 5,0 0,10 0,10 10),(8 4,10 10,12 4,8 4))", "3: 0 0 0 0 0 0 4");
        // A higher one that turns back has both ways on one side: it does not cross.
        due("POLYGON(" + SQUARE + ",(5 5,10 5,5 5,5 6,5 5))", "3: 0 0 1 0 0 1 1");
        due("POLYGON(" + SQUARE + ",(15 5,10 5,15 5,15 6,15 5))", "3: 0 0 1 0 0 1 1");
    }

    private static void onSegments() {
        // The hole's first point is on a corner, or amid a side, and tells nothing.
        due("POLYGON(" + SQUARE + ",(10 10,12 11,11 12,10 10))", OUT);
        due("POLYGON(" + SQUARE + ",(10 10,9 8,8 9,10 10))", RIGHT);
        for (String at : new String[] {"0 5", "5 0", "10 5", "5 10"}) {
            due("POLYGON(" + SQUARE + ",(" + at + ",5 5,6 6," + at + "))", RIGHT);
        }
        due("POLYGON(" + SQUARE + ",(0 5,-5 5,-5 6,0 5))", OUT);
        due("POLYGON(" + SQUARE + ",(5 0,5 -5,6 -5,5 0))", OUT);
        due("POLYGON(" + SQUARE + ",(10 5,15 5,15 6,10 5))", OUT);
        due("POLYGON(" + SQUARE + ",(5 10,5 15,6 15,5 10))", OUT);
        due("POLYGON((0 0,10 5,0 10,0 0),(4 2,3 3,2 2,4 2))", RIGHT);
        due("POLYGON((0 0,10 5,0 10,0 0),(4 2,5 1,6 1,4 2))", OUT);
        // On the line of a side, but not on the side.
        due("POLYGON((0 0,10 0,10 10,5 5,0 5,0 0),(3 3,2 4,2 3,3 3))", RIGHT);
        due("POLYGON((0 0,10 0,10 10,5 5,0 5,0 0),(11 11,12 14,11 12,11 11))", OUT);
    }

    private static void lineToTheRight() {
        String arms = "(0 0,12 0,12 10,8 10,8 4,4 4,4 10,0 10,0 0)";
        // It crosses four, three, two, one and none.
        due("POLYGON(" + arms + ",(-3 6,-2 6,-2 7,-3 6))", OUT);
        due("POLYGON(" + arms + ",(1 6,2 6,2 7,1 6))", RIGHT);
        due("POLYGON(" + arms + ",(5 6,7 6,7 8,5 6))", OUT);
        due("POLYGON(" + arms + ",(9 6,10 6,10 7,9 6))", RIGHT);
        due("POLYGON(" + arms + ",(14 6,15 6,15 7,14 6))", OUT);
        // Along a side that lies to the right, in the middle, at the top and at the bottom.
        due("POLYGON(" + arms + ",(1 4,2 4,2 5,1 4))", RIGHT);
        due("POLYGON(" + arms + ",(-3 4,-2 4,-2 5,-3 4))", OUT);
        due("POLYGON(" + arms + ",(-3 10,-2 10,-2 11,-3 10))", OUT);
        due("POLYGON(" + arms + ",(6 10,7 10,7 9,6 10))", OUT);
        due("POLYGON(" + arms + ",(-3 0,-2 0,-2 1,-3 0))", OUT);
        // Through corners: where the ring goes on upwards, and where it turns back.
        String diamond = "(0 0,5 -5,10 0,5 5,0 0)";
        due("POLYGON(" + diamond + ",(-3 0,-2 0,-2 1,-3 0))", OUT);
        due("POLYGON(" + diamond + ",(3 0,4 0,4 1,3 0))", RIGHT);
        due("POLYGON(" + diamond + ",(13 0,12 0,12 1,13 0))", OUT);
        due("POLYGON(" + diamond + ",(-3 5,-2 5,-2 6,-3 5))", OUT);
        due("POLYGON(" + diamond + ",(-3 -5,-2 -5,-2 -6,-3 -5))", OUT);
        due("POLYGON((0 0,10 0,5 5,15 0,15 10,0 10,0 0),(2 5,1 6,2 6,2 5))", RIGHT);
        due("POLYGON((0 10,10 10,5 5,15 10,15 0,0 0,0 10),(2 5,1 4,2 4,2 5))", RIGHT);
        // As little as can be to the left and to the right of a slope, upwards and downwards.
        for (String slope : new String[] {"(0 0,1 3,-9 9,-9 -9,0 0)", "(0 0,-9 -9,-9 9,1 3,0 0)"}) {
            due("POLYGON(" + slope + ",(0 1,-2 2,-2 1,0 1))", RIGHT);
            due("POLYGON(" + slope + ",(1 2,3 2,3 1,1 2))", OUT);
        }
        due("POLYGON((0 0,20 0,13 7,0 0),(15 4,14 4,14 3,15 4))", RIGHT);
        due("POLYGON((0 0,20 0,13 7,0 0),(17 4,18 4,18 5,17 4))", OUT);
    }

    private static void firstBeginning() {
        // One, two and three points on the shell, then one within it or outside.
        due("POLYGON(" + SQUARE + ",(0 5,1 5,1 6,0 5))", RIGHT);
        due("POLYGON(" + SQUARE + ",(0 5,-1 5,-1 6,0 5))", OUT);
        due("POLYGON(" + SQUARE + ",(0 5,5 0,5 5,0 5))", "8: 0 0 -1 -1 -1 -1 -1");
        String arms = "(0 0,12 0,12 10,8 10,8 4,4 4,4 10,0 10,0 0)";
        due("POLYGON(" + arms + ",(4 8,8 8,6 9,4 8))", OUT);
        due("POLYGON(" + arms + ",(8 8,4 8,6 4,7 5,8 8))", OUT);
        due("POLYGON(" + arms + ",(6 9,4 8,8 8,6 9))", OUT);
        // Of the beginnings in their order, with repeated points among them.
        due("POLYGON(" + arms + ",(4 8,4 8,8 8,8 8,6 9,4 8))", OUT);
        // In the other way round it does not lie: a hole round another one, told as a pair.
        due("POLYGON(" + SQUARE + ",(1 5,2 4,2 6,1 5),(1 1,9 1,9 9,1 9,1 1))",
                "7: 0 0 1 -1 0 2 -1");
        due("POLYGON(" + SQUARE + ",(1 1,9 1,9 9,1 9,1 1),(1 5,2 4,2 6,1 5))",
                "7: 0 0 1 -1 0 2 -1");
        // Parts likewise.
        due("MULTIPOLYGON((" + SQUARE + "),((0 5,10 5,5 6,0 5)))", "11: 0 0 -1 -1 1 -1 -1");
        due("MULTIPOLYGON((" + arms + "),((4 8,8 8,6 9,4 8)))", RIGHT);
    }

    private static void allBeginningsOn() {
        // In a notch of the shell: upright, with slopes, far from zero.
        outOfNotch("(0 0,10 0,10 10,8 10,8 4,2 4,2 10,0 10,0 0)", "(8 7,5 4,2 7,8 7)");
        outOfNotch("(0 0,40 0,28 10,26 2,22 2,20 10,0 10,0 0)", "(21 6,24 2,27 6,21 6)");
        outOfNotch("(-40 0,0 0,-12 10,-14 2,-18 2,-20 10,-40 10,-40 0)",
                "(-19 6,-16 2,-13 6,-19 6)");
        outOfNotch("(0 -40,0 0,10 -12,2 -14,2 -18,10 -20,10 -40,0 -40)",
                "(6 -19,2 -16,6 -13,6 -19)");
        // In the shell, likewise: the hole lies in there, but splits it.
        inShell(SQUARE, "(0 5,5 0,10 5,5 10,0 5)");
        inShell("(20 0,30 8,24 20,12 12,20 0)", "(25 4,27 14,18 16,16 6,25 4)");
        inShell("(-20 -40,-10 -32,-16 -20,-28 -28,-20 -40)",
                "(-15 -36,-13 -26,-22 -24,-24 -34,-15 -36)");
        // Level and upright first segments, from corners.
        due("POLYGON((0 0,6 0,4 3,6 6,0 6,2 3,0 0),(2 3,4 3,3 0,2 3))", "8: 0 0 -1 -1 -1 -1 -1");
        due("POLYGON((0 0,3 2,6 0,6 6,3 4,0 6,0 0),(3 2,3 4,0 3,3 2))", "8: 0 0 -1 -1 -1 -1 -1");
        due("POLYGON((0 0,9 0,9 9,6 9,6 3,3 3,3 9,0 9,0 0),(3 9,6 9,5 3,3 9))", OUT);
        due("POLYGON((0 0,9 0,9 9,6 9,6 3,3 3,3 9,0 9,0 0),(6 9,3 9,5 3,6 9))", OUT);
    }

    private static void outOfNotch(String shell, String hole) {
        for (String outer : Rings.bothWays(shell)) {
            for (String inner : Rings.fromEachPoint(hole)) {
                due("POLYGON(" + outer + "," + inner + ")", OUT);
                due("MULTIPOLYGON((" + outer + "),(" + inner + "))", RIGHT);
                due("MULTIPOLYGON((" + inner + "),(" + outer + "))", RIGHT);
            }
        }
    }

    private static void inShell(String shell, String hole) {
        for (String outer : Rings.bothWays(shell)) {
            for (String inner : Rings.fromEachPoint(hole)) {
                due("POLYGON(" + outer + "," + inner + ")", "8: 0 0 -1 -1 -1 -1 -1");
                due("MULTIPOLYGON((" + outer + "),(" + inner + "))", "11: 0 0 -1 -1 1 -1 -1");
                due("MULTIPOLYGON((" + inner + "),(" + outer + "))", "11: 0 0 -1 -1 1 -1 -1");
            }
        }
    }

    private static void severalExceptions() {
        Consumer<ShapeJudge> noNumbers = judge -> {
            Calls.open(judge, 7, 3);
            Calls.repeat(4092, () -> judge.ring());
        };
        Consumer<ShapeJudge> fiftyAndNoNumbers = judge -> {
            judge.open(7);
            Calls.repeat(1998, () -> Calls.empty(judge, 7));
            Calls.repeat(49, () -> judge.open(7));
        };
        Check.due("no numbers are left", Calls.made(noNumbers).clear(), 4096);
        Check.due("no numbers are left", Calls.made(fiftyAndNoNumbers).clear(), 4096);
        // open(): no such kind before all others; no place for it before too many numbers.
        Calls.dueRefused("no kind, a whole one", judge -> Calls.empty(judge, 1), j -> j.open(8),
                Calls.ARGUMENT);
        Calls.dueRefused("no kind, no parts", judge -> judge.open(3), j -> j.open(0),
                Calls.ARGUMENT);
        Calls.dueRefused("no kind, 50 open", judge -> Calls.repeat(50, () -> judge.open(7)),
                j -> j.open(8), Calls.ARGUMENT);
        Calls.dueRefused("no kind, no numbers", fiftyAndNoNumbers, j -> j.open(-1),
                Calls.ARGUMENT);
        Calls.dueRefused("a whole one, no numbers", judge -> {
            noNumbers.accept(judge);
            judge.close();
            judge.close();
        }, j -> j.open(7), Calls.STATE);
        Calls.dueRefused("no such parts, no numbers", noNumbers, j -> j.open(1), Calls.STATE);
        Calls.dueRefused("50 open, no numbers", fiftyAndNoNumbers, j -> j.open(7), Calls.STATE);
        // ring(): no POLYGON before too many numbers.
        Calls.dueRefused("no POLYGON, no numbers", fiftyAndNoNumbers, j -> j.ring(), Calls.STATE);
        Calls.dueRefused("a whole POLYGON, no numbers", judge -> {
            judge.open(3);
            Calls.repeat(4094, () -> judge.ring());
            judge.close();
        }, j -> j.ring(), Calls.STATE);
        severalExceptionsOfPoint();
    }

    /** point(): too far out before all others; no place for it before too many points. */
    private static void severalExceptionsOfPoint() {
        Consumer<ShapeJudge> full = judge -> {
            Calls.open(judge, 7, 2);
            Calls.repeat(4096, () -> judge.point(1, 1));
        };
        Calls.dueRefused("too far, no shape", judge -> { }, j -> j.point(FAR + 1, 0),
                Calls.ARGUMENT);
        Calls.dueRefused("too far, no ring", judge -> judge.open(3), j -> j.point(0, FAR + 1),
                Calls.ARGUMENT);
        Calls.dueRefused("too far, a POINT with its point", judge -> {
            judge.open(1);
            judge.point(0, 0);
        }, j -> j.point(-FAR - 1, 0), Calls.ARGUMENT);
        Calls.dueRefused("too far, a whole one", judge -> Calls.empty(judge, 2),
                j -> j.point(0, -FAR - 1), Calls.ARGUMENT);
        Calls.dueRefused("too far, 4096 points", full, j -> j.point(FAR + 1, 0), Calls.ARGUMENT);
        Calls.dueRefused("no place, 4096 points", judge -> {
            full.accept(judge);
            judge.close();
        }, j -> j.point(0, 0), Calls.STATE);
        Calls.dueRefused("a POINT with the 4096th point", judge -> {
            Calls.open(judge, 7, 2);
            Calls.repeat(4095, () -> judge.point(1, 1));
            judge.close();
            judge.open(1);
            judge.point(2, 2);
        }, j -> j.point(0, 0), Calls.STATE);
    }

    private static void constants() {
        Check.due("NONE", ShapeJudge.NONE, -1);
        Check.due("place(0) of a new object", new ShapeJudge().place(0), ShapeJudge.NONE);
    }
}
