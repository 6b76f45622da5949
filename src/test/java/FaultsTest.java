/** Terms, what is wrong with a shape: sentence by sentence, and in the order that they tell. */
final class FaultsTest {
    /** A shape for each fault, with what is due: what is wrong, and all the places. */
    static final String[][] ONE_OF_EACH = {
        {"LINESTRING(1 1)", "2: 0 -1 -1 -1 -1 -1 -1"},
        {"POLYGON((0 0,4 0,4 4))", "1: 0 0 0 -1 -1 -1 -1"},
        {"POLYGON((0 0,4 0,0 0))", "2: 0 0 0 -1 -1 -1 -1"},
        {"POLYGON((0 0,4 0,4 4,4 2,0 0))", "3: 0 0 0 1 0 0 2"},
        {"POLYGON((0 0,10 10,10 0,0 10,0 0))", "4: 0 0 0 0 0 0 2"},
        {"POLYGON((0 0,10 0,10 10,5 0,0 10,0 0))", "5: 0 0 0 0 0 0 2"},
        {"POLYGON((0 0,4 0,4 4,0 0),(5 0,6 0,6 1,5 0))", "6: 0 0 1 -1 -1 -1 -1"},
        {"POLYGON((0 0,9 0,9 9,0 9,0 0),(1 1,8 1,8 8,1 1),(5 2,6 2,6 3,5 2))",
            "7: 0 0 1 -1 0 2 -1"},
        {"POLYGON((0 0,9 0,9 9,0 9,0 0),(0 5,9 5,5 6,0 5))", "8: 0 0 -1 -1 -1 -1 -1"},
        {"MULTIPOLYGON(((0 0,4 0,4 4,0 0)),((0 0,4 4,0 4,0 0)))", "9: 0 0 0 2 1 0 0"},
        {"MULTIPOLYGON(((0 0,4 0,4 4,0 0)),((1 -1,2 -1,2 1,1 -1)))", "10: 0 0 0 0 1 0 1"},
        {"MULTIPOLYGON(((0 0,9 0,9 9,0 0)),((5 2,6 2,6 3,5 2)))", "11: 0 0 -1 -1 1 -1 -1"}};

    private static final String RIGHT = "0: -1 -1 -1 -1 -1 -1 -1";
    private static final String SPLIT = "8: 0 0 -1 -1 -1 -1 -1";
    private static final String SQUARE = "(0 0,10 0,10 10,0 10,0 0)";
    private static final String WHOLE = "(" + SQUARE + ")";
    private static final String FRAME = "(" + SQUARE + ",(2 2,8 2,8 8,2 8,2 2))";
    private static final String FAR_OFF = "((50 50,60 50,60 60,50 50))";

    private FaultsTest() {
    }

    public static void main(String[] args) {
        sentences().run();
        Check.end();
    }

    static Sentences sentences() {
        return new Sentences("Terms")
                .add("WHAT IS WRONG: of the shapes in their order the first at which something is:",
                        FaultsTest::firstShape)
                .add("LINESTRING: 2 FEW: it has points, but not two different ones.",
                        FaultsTest::fewInLine)
                .add("POLYGON. First of its rings in their order:", FaultsTest::ringsFirst)
                .add("1 OPEN: no points, or the last one is not the first one;", FaultsTest::open)
                .add("2 FEW: not three different points.", FaultsTest::fewInRing)
                .add("Then of all pairs of its segments (the one with the lower ring, or in one "
                        + "ring with the lower number, first; ordered by the first one's ring and "
                        + "number, then the other one's) the first at fault:",
                        FaultsTest::firstPair)
                .add("3 SHARED: they have more than one point in common.", FaultsTest::shared)
                .add("4 CROSSED: one point, that is an end of neither,", FaultsTest::crossed)
                .add("or, of different rings, a point where neither begins and the rings cross.",
                        FaultsTest::crossedAtEnd)
                .add("5 TOUCHES: of one ring, one point, but they are no neighbours that have it "
                        + "as the end of the one and the beginning of the other.",
                        FaultsTest::touches)
                .add("Then: 6 OUT: the first hole that does not lie in the shell.", FaultsTest::out)
                .add("7 NESTED: the first pair of holes (the lower one first) of which one lies "
                        + "in the other.", FaultsTest::nested)
                .add("8 SPLIT: the inside is not of one piece: when each point where rings touch "
                        + "is joined with all rings that pass there, something is joined in a "
                        + "round.", FaultsTest::split)
                .add("MULTIPOLYGON: of its parts in their order the first that is wrong as a "
                        + "POLYGON.", FaultsTest::wrongPart)
                .add("Then of all pairs of segments of different parts (ordered by the first "
                        + "one's part, ring, number, then the other one's) the first at fault:",
                        FaultsTest::firstPairOfParts)
                .add("9: they have more than one point in common,", FaultsTest::partsShared)
                .add("10: as CROSSED.", FaultsTest::partsCrossed)
                .add("Then 11 INSIDE: the first pair of parts (the lower one first) of which "
                        + "one's shell lies in the other's shell, and in none of that one's "
                        + "holes.", FaultsTest::inside);
    }

    private static void due(String shape, String verdict) {
        Check.due(shape, Draw.verdict(Draw.fresh(shape)), verdict);
    }

    private static void firstShape() {
        due("GEOMETRYCOLLECTION(POINT(0 0),MULTILINESTRING((0 0,1 1)),LINESTRING(5 5))",
                "2: 4 -1 -1 -1 -1 -1 -1");
        due("GEOMETRYCOLLECTION(MULTIPOLYGON(" + WHOLE + ",((20 20,21 20,21 21,20 20))),"
                + "GEOMETRYCOLLECTION(),POLYGON((0 0,10 10,10 0,0 10,0 0)))", "4: 5 0 0 0 0 0 2");
        // Whatever is wrong with later ones.
        due("GEOMETRYCOLLECTION(MULTIPOLYGON(" + WHOLE + "," + WHOLE + "),LINESTRING(1 1))",
                "9: 1 0 0 0 1 0 0");
        due("GEOMETRYCOLLECTION(LINESTRING(1 1),MULTIPOLYGON(" + WHOLE + "," + WHOLE + "))",
                "2: 1 -1 -1 -1 -1 -1 -1");
        due("GEOMETRYCOLLECTION(GEOMETRYCOLLECTION(POLYGON(())),LINESTRING(1 1))",
                "1: 2 0 0 -1 -1 -1 -1");
        // A MULTIPOLYGON comes before its parts, so what is wrong with a part is told there.
        due("GEOMETRYCOLLECTION(POINT(),MULTIPOLYGON(" + WHOLE + ",((1 1,2 2))))",
                "1: 2 1 0 -1 -1 -1 -1");
        // What stands behind a MULTIPOLYGON is none of its parts, also if it has none.
        due("GEOMETRYCOLLECTION(MULTIPOLYGON(),POLYGON(()))", "1: 2 0 0 -1 -1 -1 -1");
        due("GEOMETRYCOLLECTION(MULTIPOLYGON(()),POLYGON(()))", "1: 3 0 0 -1 -1 -1 -1");
        due("GEOMETRYCOLLECTION(MULTIPOLYGON(" + WHOLE + "),POLYGON" + WHOLE + ")", RIGHT);
        // Other shapes are never wrong by themselves, nor by their parts lying as they do.
        due("GEOMETRYCOLLECTION()", RIGHT);
        due("POINT()", RIGHT);
        due("POINT(3 4)", RIGHT);
        due("MULTIPOINT()", RIGHT);
        due("MULTIPOINT((1 1),(1 1),())", RIGHT);
        due("MULTILINESTRING()", RIGHT);
        due("MULTILINESTRING((0 0,1 1),(0 0,1 1))", RIGHT);
        due("GEOMETRYCOLLECTION(POLYGON" + WHOLE + ",POLYGON" + WHOLE + ")", RIGHT);
        due("GEOMETRYCOLLECTION(MULTIPOLYGON(" + WHOLE + "),MULTIPOLYGON(" + WHOLE + "))", RIGHT);
    }

    private static void fewInLine() {
        due("LINESTRING()", RIGHT);
        due("LINESTRING(1 1)", "2: 0 -1 -1 -1 -1 -1 -1");
        due("LINESTRING(1 1,1 1)", "2: 0 -1 -1 -1 -1 -1 -1");
        due("LINESTRING(1 1,1 1,1 1)", "2: 0 -1 -1 -1 -1 -1 -1");
        due("LINESTRING(1 1,1 2)", RIGHT);
        due("LINESTRING(1 1,2 1)", RIGHT);
        due("LINESTRING(1 1,1 1,1 1,2 1)", RIGHT);
        due("LINESTRING(1 1,2 1,1 1)", RIGHT);
        due("LINESTRING(0 0,4 4,4 0,0 4,0 0,4 4)", RIGHT);
        due("MULTILINESTRING((0 0,1 1),(),(2 2,2 2),(3 3))", "2: 3 -1 -1 -1 -1 -1 -1");
    }

    private static void ringsFirst() {
        due("POLYGON()", RIGHT);
        due("POLYGON((0 0,4 0,0 0),(1 1,2 1))", "2: 0 0 0 -1 -1 -1 -1");
        due("POLYGON((0 0,4 0),(1 1,2 1,1 1))", "1: 0 0 0 -1 -1 -1 -1");
        due("POLYGON(" + SQUARE + ",())", "1: 0 0 1 -1 -1 -1 -1");
        due("POLYGON(" + SQUARE + ",(1 1,2 1,2 2,1 1),(3 3,4 3,3 3),())", "2: 0 0 2 -1 -1 -1 -1");
        // Before any pair of segments.
        due("POLYGON((0 0,4 4,4 0,0 4,0 0),(1 1,2 1,2 2))", "1: 0 0 1 -1 -1 -1 -1");
        due("POLYGON((0 0,4 4,4 0,0 4,0 0),(1 1))", "2: 0 0 1 -1 -1 -1 -1");
    }

    private static void open() {
        due("POLYGON(())", "1: 0 0 0 -1 -1 -1 -1");
        due("POLYGON((),(),())", "1: 0 0 0 -1 -1 -1 -1");
        due("POLYGON((0 0,4 0))", "1: 0 0 0 -1 -1 -1 -1");
        due("POLYGON((0 0,4 0,4 4,0 1))", "1: 0 0 0 -1 -1 -1 -1");
        due("POLYGON((0 0,4 0,4 4,1 0))", "1: 0 0 0 -1 -1 -1 -1");
        due("POLYGON((0 0,4 0,4 4,0 0,0 1))", "1: 0 0 0 -1 -1 -1 -1");
        due("POLYGON((0 0,4 0,4 4,0 0))", RIGHT);
        // One point is the first and the last one.
        due("POLYGON((1 1))", "2: 0 0 0 -1 -1 -1 -1");
    }

    private static void fewInRing() {
        due("POLYGON((1 1))", "2: 0 0 0 -1 -1 -1 -1");
        due("POLYGON((1 1,1 1,1 1,1 1))", "2: 0 0 0 -1 -1 -1 -1");
        due("POLYGON((0 0,4 0,0 0))", "2: 0 0 0 -1 -1 -1 -1");
        due("POLYGON((0 0,4 0,0 0,4 0,0 0))", "2: 0 0 0 -1 -1 -1 -1");
        due("POLYGON((0 0,4 0,4 4,0 0))", RIGHT);
        due("POLYGON((0 0,0 0,4 0,4 0,4 4,0 0,0 0))", RIGHT);
        // Three are enough, whatever else is wrong.
        due("POLYGON((0 0,4 0,8 0,0 0))", "3: 0 0 0 0 0 0 2");
        due("POLYGON((0 0,4 0,0 0,0 4,0 0))", "3: 0 0 0 0 0 0 1");
    }

    private static void firstPair() {
        // The first one's number before the other one's: 0 and 5, not 1 and 3.
        due("POLYGON((0 0,10 0,10 10,14 8,6 6,5 3,5 -3,-2 -3,0 0))", "4: 0 0 0 0 0 0 5");
        // The other one's number, wherever on the first one.
        due("POLYGON((0 0,20 0,20 5,15 5,15 -5,5 -5,5 5,0 5,0 0))", "4: 0 0 0 0 0 0 3");
        // One ring before two rings, of the same first one.
        due("POLYGON((0 0,10 10,10 0,0 10,0 0),(1 3,3 1,2 4,1 3))", "4: 0 0 0 0 0 0 2");
        // .. but not of a later first one: 0 with the hole, not 1 and 3.
        due("POLYGON((0 0,10 0,10 10,14 8,6 6,0 0),(4 -2,6 -2,5 1,4 -2))", "4: 0 0 0 0 0 1 1");
        // The other one's ring before its number.
        due("POLYGON(" + SQUARE + ",(2 2,4 2,3 -2,2 2),(7 2,7 -2,8 2,7 2))", "4: 0 0 0 0 0 1 1");
        // The first one's ring before its number.
        due("POLYGON(" + SQUARE + ",(3 3,6 3,6 6,3 3),(5 4,-2 4,-2 5,5 4))", "4: 0 0 0 3 0 2 0");
        due("POLYGON(" + SQUARE + ",(1 1,5 1,5 5,1 1),(2 0,4 4,1 5,2 0))", "4: 0 0 1 0 0 2 0");
        // A pair before another one, whichever fault has the lower number.
        due("POLYGON((0 0,10 0,10 10,5 0,0 10,-5 10,-2 10,0 0))", "5: 0 0 0 0 0 0 2");
        due("POLYGON((0 0,10 0,10 10,4 -1,0 10,-5 10,-2 10,0 0))", "4: 0 0 0 0 0 0 2");
        due("POLYGON((0 0,10 0,5 0,5 10,8 5,0 10,0 0))", "3: 0 0 0 0 0 0 1");
        due("POLYGON(" + SQUARE + ",(8 4,10 10,4 10,8 4))", "4: 0 0 0 1 0 1 0");
        // Before what is asked of whole rings.
        due("POLYGON(" + SQUARE + ",(20 20,21 20,21 21,20 20),(1 1,5 5,5 1,1 5,1 1))",
                "4: 0 0 2 0 0 2 2");
    }

    private static void shared() {
        // Neighbours: there and back, more and less far.
        due("POLYGON((0 0,4 0,2 0,0 0))", "3: 0 0 0 0 0 0 1");
        due("POLYGON((0 0,4 0,4 4,4 2,0 2,0 0))", "3: 0 0 0 1 0 0 2");
        due("POLYGON((4 0,4 4,4 -2,0 -2,4 0))", "3: 0 0 0 0 0 0 1");
        // The first one and the last one.
        due("POLYGON((2 0,0 0,0 4,4 4,4 0,1 0,2 0))", "3: 0 0 0 0 0 0 4");
        // Of one ring, no neighbours: a bit of both, all of one.
        due("POLYGON((0 0,4 0,4 4,8 4,8 0,3 0,0 0))", "3: 0 0 0 0 0 0 4");
        due("POLYGON((4 0,5 0,5 4,9 4,9 0,0 0,0 4,4 4,4 0))", "3: 0 0 0 0 0 0 4");
        // Of two rings: all of both, the same and the other way; all of one; a bit of both.
        due("POLYGON(" + SQUARE + "," + SQUARE + ")", "3: 0 0 0 0 0 1 0");
        due("POLYGON(" + SQUARE + ",(10 0,0 0,5 5,10 0))", "3: 0 0 0 0 0 1 0");
        due("POLYGON(" + SQUARE + ",(2 0,4 0,3 3,2 0))", "3: 0 0 0 0 0 1 0");
        due("POLYGON((2 0,4 0,3 3,2 0),(0 0,9 0,9 -9,0 0))", "3: 0 0 0 0 0 1 0");
        due("POLYGON(" + SQUARE + ",(1 1,3 1,3 3,1 1),(3 2,5 2,3 4,3 2))", "3: 0 0 1 1 0 2 2");
        due("POLYGON(" + SQUARE + ",(1 1,5 5,1 5,1 1),(4 4,9 9,9 4,4 4))", "3: 0 0 1 0 0 2 0");
        // As little as can be.
        due("POLYGON(" + SQUARE + ",(2 0,3 0,3 3,2 0))", "3: 0 0 0 0 0 1 0");
        // One point only, though on one line.
        due("POLYGON((0 0,2 0,4 0,4 4,0 0))", RIGHT);
        due("POLYGON(" + SQUARE + ",(1 1,5 5,1 5,1 1),(5 5,9 9,9 4,5 5))", RIGHT);
        // One line, but nothing in common.
        due("POLYGON(" + SQUARE + ",(1 1,4 4,1 5,1 1),(5 5,9 9,9 4,5 5))", RIGHT);
        // Side by side.
        due("POLYGON(" + SQUARE + ",(1 1,5 5,1 5,1 1),(2 1,6 5,9 4,2 1))", RIGHT);
    }

    private static void crossed() {
        due("POLYGON((0 0,10 10,10 0,0 10,0 0))", "4: 0 0 0 0 0 0 2");
        due("POLYGON((0 0,10 0,10 10,4 -1,0 10,0 0))", "4: 0 0 0 0 0 0 2");
        due("POLYGON(" + SQUARE + ",(2 2,12 2,4 4,2 2))", "4: 0 0 0 1 0 1 0");
        // At a point that is none of whole numbers.
        due("POLYGON((0 0,3 1,3 0,0 2,0 0))", "4: 0 0 0 0 0 0 2");
        // Missed by as little as can be, though the line of the one goes through the other one.
        for (String slope : new String[] {"((0 0,1 3,5 0,0 0))", "((1 3,0 0,5 0,1 3))"}) {
            due("MULTIPOLYGON(" + slope + ",((0 1,-5 1,-5 4,0 1)))", RIGHT);
            due("MULTIPOLYGON(" + slope + ",((-5 1,0 1,-5 4,-5 1)))", RIGHT);
            due("MULTIPOLYGON(((0 1,-5 1,-5 4,0 1))," + slope + ")", RIGHT);
            due("MULTIPOLYGON(((-5 1,0 1,-5 4,-5 1))," + slope + ")", RIGHT);
        }
        // Just missed, just hit.
        due("POLYGON(" + SQUARE + ",(2 2,9 2,4 4,2 2))", RIGHT);
        due("POLYGON(" + SQUARE + ",(2 2,10 2,4 4,2 2))", RIGHT);
        due("POLYGON(" + SQUARE + ",(2 2,11 2,4 4,2 2))", "4: 0 0 0 1 0 1 0");
    }

    private static void crossedAtEnd() {
        // A corner of the hole on a side of the shell, each way through.
        due("POLYGON(" + SQUARE + ",(5 5,10 6,15 5,5 5))", "4: 0 0 0 1 0 1 0");
        due("POLYGON(" + SQUARE + ",(15 5,10 6,5 5,15 5))", "4: 0 0 0 1 0 1 0");
        // A side of the hole through a corner of the shell.
        due("POLYGON(" + SQUARE + ",(8 8,12 12,8 9,8 8))", "4: 0 0 0 1 0 1 0");
        // A corner of both.
        due("POLYGON(" + SQUARE + ",(8 5,10 10,8 15,8 5))", "4: 0 0 0 1 0 1 0");
        // The segments that begin there are not told: the last ones lead to first points.
        due("POLYGON(" + SQUARE + ",(10 6,15 5,15 20,5 5,10 6))", "4: 0 0 0 1 0 1 3");
        due("POLYGON(" + SQUARE + ",(3 5,0 0,-3 1,3 5))", "4: 0 0 0 3 0 1 0");
        due("POLYGON(" + SQUARE + ",(10 10,12 12,5 12,5 8,10 10))", "4: 0 0 0 1 0 1 3");
        // Rings that touch do not cross.
        due("POLYGON(" + SQUARE + ",(10 5,8 4,8 6,10 5))", RIGHT);
        due("POLYGON(" + SQUARE + ",(10 10,5 6,6 5,10 10))", RIGHT);
        due("POLYGON((0 0,10 0,10 10,5 5,0 10,0 0),(3 5,3 3,7 3,7 5,3 5))", RIGHT);
        // Of one ring, the same is no crossing.
        due("POLYGON((0 0,10 0,10 5,5 0,5 -5,0 -5,0 0))", "5: 0 0 0 0 0 0 2");
    }

    private static void touches() {
        // An end amid the other one.
        due("POLYGON((0 0,10 0,10 10,5 0,0 10,0 0))", "5: 0 0 0 0 0 0 2");
        due("POLYGON((5 0,10 10,0 10,0 0,10 0,4 -4,5 0))", "5: 0 0 0 0 0 0 3");
        due("POLYGON((5 0,0 10,10 10,10 0,0 0,6 -4,5 0))", "5: 0 0 0 0 0 0 3");
        // An end at an end: of two that lead there, that begin there, or one each.
        due("POLYGON((0 0,4 0,2 2,4 4,0 4,2 2,0 0))", "5: 0 0 0 1 0 0 4");
        due("POLYGON((0 0,4 0,2 2,2 2,4 4,0 4,2 2,0 0))", "5: 0 0 0 1 0 0 5");
        due("POLYGON((2 0,10 0,10 10,0 10,2 0,1 -5,2 -9,2 0))", "5: 0 0 0 0 0 0 3");
        // On one line, but no neighbours.
        due("POLYGON((0 0,2 0,1 4,2 4,2 0,4 0,4 6,0 6,0 0))", "5: 0 0 0 0 0 0 3");
        // Neighbours, also the last one and the first one, and at repeated points.
        due("POLYGON((2 0,10 0,10 10,0 10,2 0))", RIGHT);
        due("POLYGON((2 0,2 0,10 0,10 0,10 10,0 10,2 0,2 0))", RIGHT);
        due("POLYGON((0 0,4 0,4 4,0 0))", RIGHT);
        // In a hole; but two rings may touch.
        due("POLYGON(" + SQUARE + ",(1 1,9 1,9 9,5 1,1 9,1 1))", "5: 0 0 1 0 0 1 2");
        due("POLYGON(" + SQUARE + ",(5 0,6 5,4 5,5 0))", RIGHT);
        due("POLYGON(" + SQUARE + ",(1 1,3 1,3 3,1 1),(3 3,5 3,5 5,3 3))", RIGHT);
        // A ring that passes a point of the shell twice, and does not cross it there.
        due("POLYGON(" + SQUARE + ",(10 5,8 4,8 3,10 5,8 7,8 6,10 5))", "5: 0 0 1 0 0 1 2");
    }

    private static void out() {
        due("POLYGON(" + SQUARE + ",(20 20,21 20,21 21,20 20))", "6: 0 0 1 -1 -1 -1 -1");
        due("POLYGON(" + SQUARE + ",(1 1,2 1,2 2,1 1))", RIGHT);
        due("POLYGON(" + SQUARE + ",(10 5,12 4,12 6,10 5))", "6: 0 0 1 -1 -1 -1 -1");
        // The first of several.
        due("POLYGON(" + SQUARE + ",(1 1,2 1,2 2,1 1),(12 4,10 5,12 6,12 4),"
                + "(30 30,31 30,31 31,30 30))", "6: 0 0 2 -1 -1 -1 -1");
        // The shell in the hole.
        due("POLYGON((2 2,4 2,4 4,2 2)," + SQUARE + ")", "6: 0 0 1 -1 -1 -1 -1");
        // In another hole, but not in the shell.
        due("POLYGON((20 0,30 0,30 9,20 0)," + SQUARE + ",(1 1,2 1,2 2,1 1))",
                "6: 0 0 1 -1 -1 -1 -1");
        // Before holes in one another, and before a split.
        due("POLYGON(" + SQUARE + ",(1 1,9 1,9 9,1 9,1 1),(2 2,3 2,3 3,2 2),(20 0,21 0,21 1,20 0))",
                "6: 0 0 3 -1 -1 -1 -1");
        due("POLYGON(" + SQUARE + ",(0 5,10 5,5 6,0 5),(20 0,21 0,21 1,20 0))",
                "6: 0 0 2 -1 -1 -1 -1");
        due("POLYGON((0 0,10 0,10 10,8 10,8 4,2 4,2 10,0 10,0 0),(8 7,5 4,2 7,8 7))",
                "6: 0 0 1 -1 -1 -1 -1");
    }

    private static void nested() {
        String wide = "(1 1,9 1,9 9,1 9,1 1)";
        String small = "(2 2,3 2,3 3,2 2)";
        String other = "(5 5,6 5,6 6,5 5)";
        due("POLYGON(" + SQUARE + "," + wide + "," + small + ")", "7: 0 0 1 -1 0 2 -1");
        due("POLYGON(" + SQUARE + "," + small + "," + wide + ")", "7: 0 0 1 -1 0 2 -1");
        due("POLYGON(" + SQUARE + "," + small + "," + other + ")", RIGHT);
        // The first pair: 1 and 3, not 2 and 3; 1 and 3, not 2 and 4; 2 and 3.
        due("POLYGON(" + SQUARE + "," + small + "," + other + "," + wide + ")",
                "7: 0 0 1 -1 0 3 -1");
        due("POLYGON((0 0,30 0,30 30,0 30,0 0)," + small + ",(20 20,29 20,29 29,20 20)," + wide
                + ",(25 22,26 22,26 23,25 22))", "7: 0 0 1 -1 0 3 -1");
        due("POLYGON((0 0,20 0,20 20,0 20,0 0),(15 15,16 15,16 16,15 15)," + small + "," + wide
                + ")", "7: 0 0 2 -1 0 3 -1");
        // All corners on the other hole.
        due("POLYGON(" + SQUARE + "," + wide + ",(5 1,9 5,5 9,1 5,5 1))", "7: 0 0 1 -1 0 2 -1");
        due("POLYGON(" + SQUARE + ",(5 1,1 5,5 9,9 5,5 1)," + wide + ")", "7: 0 0 1 -1 0 2 -1");
        due("POLYGON(" + SQUARE + "," + wide + ",(1 1,3 2,2 3,1 1))", "7: 0 0 1 -1 0 2 -1");
        // Holes that touch from outside.
        due("POLYGON(" + SQUARE + ",(1 1,5 1,5 5,1 5,1 1),(5 3,7 2,7 4,5 3))", RIGHT);
        // Before a split.
        due("POLYGON(" + SQUARE + ",(0 5,1 2,10 5,1 8,0 5),(2 5,3 5,3 6,2 5))",
                "7: 0 0 1 -1 0 2 -1");
    }

    private static void split() {
        due("POLYGON(" + SQUARE + ",(0 5,5 5,5 6,0 5))", RIGHT);
        due("POLYGON(" + SQUARE + ",(0 5,10 5,5 6,0 5))", SPLIT);
        due("POLYGON((0 0,4 0,4 4,0 4,0 0),(0 0,4 4,1 3,0 0))", SPLIT);
        due("POLYGON(" + SQUARE + ",(0 5,5 0,10 5,5 10,0 5))", SPLIT);
        // Twice on one side of the shell.
        due("POLYGON(" + SQUARE + ",(2 0,5 5,8 0,5 8,2 0))", SPLIT);
        // A corner of the shell on a side of the hole, alone, and with a second point.
        due("POLYGON((0 0,10 0,10 10,5 5,0 10,0 0),(3 5,3 3,7 3,7 5,3 5))", RIGHT);
        due("POLYGON((0 0,10 0,10 10,5 5,0 10,0 0),(3 5,5 0,7 5,3 5))", SPLIT);
        // Each hole touches the shell once.
        due("POLYGON(" + SQUARE + ",(0 5,3 4,3 6,0 5),(10 5,7 4,7 6,10 5),(5 0,4 2,6 2,5 0))",
                RIGHT);
        // A chain of holes from side to side, and one that stops short.
        due("POLYGON(" + SQUARE + ",(0 5,3 4,3 6,0 5),(3 6,6 4,6 5,3 6),(6 5,10 5,8 6,6 5))",
                SPLIT);
        due("POLYGON(" + SQUARE + ",(0 5,3 4,3 6,0 5),(3 6,6 4,6 5,3 6),(6 5,9 5,8 6,6 5))", RIGHT);
        // Three holes in a round, at corners; and on sides.
        due("POLYGON(" + SQUARE + ",(2 2,4 1,6 2,2 2),(6 2,7 4,4 6,6 2),(4 6,2 4,2 2,4 6))", SPLIT);
        due("POLYGON(" + SQUARE + ",(1 2,8 2,4 1,1 2),(7 2,8 4,6 7,7 2),(2 2,6 7,1 6,2 2))", SPLIT);
        // Many holes that meet at one point only are no round.
        due("POLYGON(" + SQUARE + ",(5 5,7 4,7 6,5 5),(5 5,6 7,4 7,5 5),(5 5,3 6,3 4,5 5))", RIGHT);
        due("POLYGON(" + SQUARE + ",(0 0,2 1,3 1,0 0),(0 0,3 2,3 3,0 0),(0 0,1 3,1 4,0 0))", RIGHT);
        // .. but with a second point in common they are.
        due("POLYGON(" + SQUARE + ",(5 5,7 4,7 6,5 5),(5 5,7 7,4 7,5 5),(7 6,8 6,8 8,7 7,7 6))",
                SPLIT);
        due("POLYGON(" + SQUARE + ",(5 5,10 4,7 6,5 5),(5 5,6 7,4 7,5 5),(5 5,3 6,0 4,5 5))",
                SPLIT);
        // A hole at a corner of the shell, that another one joins with a side of it.
        due("POLYGON(" + SQUARE + ",(6 7,0 5,4 4,6 7),(10 10,6 7,7 6,10 10))", SPLIT);
        due("POLYGON(" + SQUARE + ",(6 7,1 5,4 4,6 7),(10 10,6 7,7 6,10 10))", RIGHT);
        // Two holes that touch twice.
        due("POLYGON(" + SQUARE + ",(2 2,8 2,8 6,2 2),(8 6,9 9,1 9,2 2,3 8,8 6))", SPLIT);
        // Holes in two heaps, neither of them a round.
        due("POLYGON(" + SQUARE + ",(1 1,3 1,3 3,1 1),(3 3,5 3,5 5,3 3),(6 6,7 6,7 7,6 6),"
                + "(7 7,8 7,8 8,7 7))", RIGHT);
    }

    private static void wrongPart() {
        due("MULTIPOLYGON()", RIGHT);
        due("MULTIPOLYGON((),())", RIGHT);
        due("MULTIPOLYGON(" + WHOLE + ")", RIGHT);
        // Each fault, in a later part.
        due("MULTIPOLYGON(" + WHOLE + ",(()))", "1: 0 1 0 -1 -1 -1 -1");
        due("MULTIPOLYGON((),((1 1,2 2,1 1)))", "2: 0 1 0 -1 -1 -1 -1");
        due("MULTIPOLYGON((),((0 0,4 0,4 4,4 2,0 0)))", "3: 0 1 0 1 1 0 2");
        due("MULTIPOLYGON(" + WHOLE + ",((20 0,30 10,30 0,20 10,20 0)))", "4: 0 1 0 0 1 0 2");
        due("MULTIPOLYGON((),((0 0,10 0,10 10,5 0,0 10,0 0)))", "5: 0 1 0 0 1 0 2");
        due("MULTIPOLYGON((),(" + SQUARE + ",(20 20,21 20,21 21,20 20)))", "6: 0 1 1 -1 -1 -1 -1");
        due("MULTIPOLYGON((),(),(" + SQUARE + ",(1 1,5 1,5 5,1 1),(3 2,4 2,4 3,3 2)))",
                "7: 0 2 1 -1 2 2 -1");
        due("MULTIPOLYGON((),(" + SQUARE + ",(0 5,10 5,5 6,0 5)))", "8: 0 1 -1 -1 -1 -1 -1");
        // The first of several, whatever is wrong with it.
        due("MULTIPOLYGON(" + WHOLE + ",(" + SQUARE + ",(0 5,10 5,5 6,0 5)),(()))",
                "8: 0 1 -1 -1 -1 -1 -1");
        due("MULTIPOLYGON(" + WHOLE + ",((20 0,30 0,20 0)),((20 0,30 10,30 0,20 10,20 0)))",
                "2: 0 1 0 -1 -1 -1 -1");
        // Before what is wrong of two parts.
        due("MULTIPOLYGON(" + WHOLE + "," + WHOLE + ",(" + SQUARE + ",(0 5,10 5,5 6,0 5)))",
                "8: 0 2 -1 -1 -1 -1 -1");
    }

    private static void firstPairOfParts() {
        // The first one's part before the other one's part.
        due("MULTIPOLYGON(" + WHOLE + ",((20 0,30 0,30 10,20 0)),((9 9,21 1,21 11,9 9)))",
                "10: 0 0 0 1 2 0 0");
        // The first one's ring before its number.
        due("MULTIPOLYGON(((0 0,20 0,20 20,0 20,0 0),(5 5,15 5,15 15,5 15,5 5)),"
                + "((6 6,8 4,8 6,6 6)),((-1 10,1 10,1 11,-1 11,-1 10)))", "10: 0 0 0 3 2 0 0");
        // The first one's number before the other one's part.
        due("MULTIPOLYGON(" + WHOLE + ",((-1 11,-1 5,5 11,-1 11)),((10 1,12 1,10 3,10 1)))",
                "9: 0 0 0 1 2 0 2");
        // The other one's part before its ring and number.
        due("MULTIPOLYGON(" + WHOLE + ",((2 -5,2 -4,1 -4,1 1,0 -5,2 -5)),((5 1,5 -1,6 -1,5 1)))",
                "10: 0 0 0 0 1 0 2");
        // The other one's ring before its number: its shell by 2, its hole by 0.
        due("MULTIPOLYGON(((20 4,20 16,-1 10,20 4)),((40 0,40 20,0 20,0 0,40 0),"
                + "(18 1,18 19,38 19,38 1,18 1)))", "10: 0 0 0 1 1 0 2");
        // Pairs of one part are not looked at again: these holes touch each other and the shell.
        due("MULTIPOLYGON((" + SQUARE + ",(0 5,3 4,3 6,0 5),(3 6,6 4,6 5,3 6))," + FAR_OFF + ")",
                RIGHT);
        // A pair before another one, whichever fault has the lower number.
        due("MULTIPOLYGON(" + WHOLE + ",((5 -1,6 -1,6 1,5 -1)),((10 1,12 1,10 3,10 1)))",
                "10: 0 0 0 0 1 0 1");
        // Before parts in one another.
        due("MULTIPOLYGON(" + WHOLE + ",((2 2,3 2,3 3,2 2)),((9 5,11 5,11 6,9 5)))",
                "10: 0 0 0 1 2 0 0");
    }

    private static void partsShared() {
        due("MULTIPOLYGON(" + WHOLE + "," + WHOLE + ")", "9: 0 0 0 0 1 0 0");
        due("MULTIPOLYGON(" + WHOLE + ",((10 2,14 2,14 4,10 4,10 2)))", "9: 0 0 0 1 1 0 3");
        due("MULTIPOLYGON(" + WHOLE + ",(),((10 2,10 2,14 2,14 4,10 4,10 2)))", "9: 0 0 0 1 2 0 4");
        due("MULTIPOLYGON(" + WHOLE + ",((10 9,14 2,14 4,10 10,10 9)))", "9: 0 0 0 1 1 0 3");
        due("MULTIPOLYGON(" + FRAME + ",((8 7,8 3,3 3,8 7)))", "9: 0 0 1 1 1 0 0");
        // On one line, but apart, or with one point in common.
        due("MULTIPOLYGON(" + WHOLE + ",((10 11,14 2,14 14,10 14,10 11)))", RIGHT);
        due("MULTIPOLYGON(" + WHOLE + ",((10 10,14 2,14 14,10 14,10 10)))", RIGHT);
    }

    private static void partsCrossed() {
        due("MULTIPOLYGON(" + WHOLE + ",((8 8,14 9,14 14,8 8)))", "10: 0 0 0 1 1 0 0");
        // Through a corner, on a side and on a corner.
        due("MULTIPOLYGON(" + WHOLE + ",((5 5,10 6,15 5,5 5)))", "10: 0 0 0 1 1 0 0");
        due("MULTIPOLYGON(((5 5,10 6,15 5,5 5))," + WHOLE + ")", "10: 0 0 0 0 1 0 1");
        due("MULTIPOLYGON(" + WHOLE + ",((8 5,10 10,8 15,8 5)))", "10: 0 0 0 1 1 0 0");
        // Parts that touch are right: corner to corner, corner to side, twice.
        due("MULTIPOLYGON(" + WHOLE + ",((10 10,20 10,20 20,10 10)))", RIGHT);
        due("MULTIPOLYGON(" + WHOLE + ",((10 5,20 0,20 10,10 5)))", RIGHT);
        due("MULTIPOLYGON(" + WHOLE + ",((10 2,12 2,12 8,10 8,11 5,10 2)))", RIGHT);
        // With a hole of the other one.
        due("MULTIPOLYGON(" + FRAME + ",((8 7,3 3,8 3,8 7)))", "10: 0 0 1 1 1 0 1");
        due("MULTIPOLYGON(((3 3,9 4,3 7,3 3))," + FRAME + ")", "10: 0 0 0 0 1 1 1");
    }

    private static void inside() {
        due("MULTIPOLYGON(" + WHOLE + ",((2 2,3 2,3 3,2 2)))", "11: 0 0 -1 -1 1 -1 -1");
        due("MULTIPOLYGON(((2 2,3 2,3 3,2 2))," + WHOLE + ")", "11: 0 0 -1 -1 1 -1 -1");
        due("MULTIPOLYGON(" + WHOLE + "," + FAR_OFF + ")", RIGHT);
        // The first pair: 2 and 3; 0 and 2, not 1 and 2; 0 and 3, not 1 and 2.
        due("MULTIPOLYGON(" + FAR_OFF + ",(),((2 2,3 2,3 3,2 2))," + WHOLE + ")",
                "11: 0 2 -1 -1 3 -1 -1");
        due("MULTIPOLYGON(((2 2,3 2,3 3,2 2)),((4 4,5 4,5 5,4 4))," + WHOLE + ")",
                "11: 0 0 -1 -1 2 -1 -1");
        due("MULTIPOLYGON(" + WHOLE + "," + FAR_OFF + ",((55 51,56 51,56 52,55 51)),"
                + "((2 2,3 2,3 3,2 2)))", "11: 0 0 -1 -1 3 -1 -1");
        // In a hole of that one, the first or a later one.
        due("MULTIPOLYGON(" + FRAME + ",((3 3,4 3,4 4,3 3)))", RIGHT);
        due("MULTIPOLYGON(((3 3,4 3,4 4,3 3))," + FRAME + ")", RIGHT);
        due("MULTIPOLYGON((" + SQUARE + ",(1 1,2 1,2 2,1 1),(4 4,8 4,8 8,4 8,4 4)),"
                + "((5 5,6 5,6 6,5 5)))", RIGHT);
        // In the shell beside the hole, touching it, and round the hole.
        due("MULTIPOLYGON(" + FRAME + ",((0 0,1 1,1 2,0 0)))", "11: 0 0 -1 -1 1 -1 -1");
        due("MULTIPOLYGON(" + FRAME + ",((2 5,1 4,1 6,2 5)))", "11: 0 0 -1 -1 1 -1 -1");
        due("MULTIPOLYGON(" + FRAME + ",((1 1,9 1,9 9,1 9,1 1)))", "11: 0 0 -1 -1 1 -1 -1");
        // It is the other one's holes that count, not its own.
        due("MULTIPOLYGON(((20 20,30 20,30 30,20 30,20 20),(22 22,28 22,28 28,22 22)),"
                + "((0 0,50 0,50 50,0 50,0 0)))", "11: 0 0 -1 -1 1 -1 -1");
        // All corners on the hole, and on the shell, inside and outside.
        due("MULTIPOLYGON(" + FRAME + ",((5 2,8 5,5 8,2 5,5 2)))", RIGHT);
        due("MULTIPOLYGON(((5 2,2 5,5 8,8 5,5 2))," + FRAME + ")", RIGHT);
        due("MULTIPOLYGON(" + WHOLE + ",((5 0,10 5,5 10,0 5,5 0)))", "11: 0 0 -1 -1 1 -1 -1");
        due("MULTIPOLYGON(((0 0,10 0,10 10,8 10,8 4,2 4,2 10,0 10,0 0)),((8 7,5 4,2 7,8 7)))",
                RIGHT);
        // A part without rings has no shell.
        due("MULTIPOLYGON((),(" + SQUARE + "),())", RIGHT);
    }
}
