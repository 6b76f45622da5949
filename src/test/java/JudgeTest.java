/** Promises 7 and 8: each fault, its edges and its place; shapes are told by texts. */
final class JudgeTest {
    private static final String RIGHT = "0: -1 -1 -1 -1 -1 -1 -1";
    private static final String SQUARE = "(0 0,10 0,10 10,0 10,0 0)";

    private JudgeTest() {
    }

    public static void main(String[] args) {
        lines();
        openAndFew();
        shared();
        crossed();
        touches();
        out();
        nested();
        split();
        partsInOrder();
        partsSharedAndCrossed();
        inside();
        numbersOfShapes();
        exactFarOut();
        again();
        Check.end();
    }

    private static void due(String shape, String verdict) {
        Check.due(shape, Draw.verdict(Draw.fresh(shape)), verdict);
    }

    private static void lines() {
        due("POINT()", RIGHT);
        due("POINT(3 4)", RIGHT);
        due("MULTIPOINT()", RIGHT);
        due("MULTIPOINT((1 1),(1 1),())", RIGHT);
        due("LINESTRING()", RIGHT);
        due("LINESTRING(1 1)", "2: 0 -1 -1 -1 -1 -1 -1");
        due("LINESTRING(1 1,1 1,1 1)", "2: 0 -1 -1 -1 -1 -1 -1");
        due("LINESTRING(1 1,1 1,1 2)", RIGHT);
        due("LINESTRING(1 1,2 1)", RIGHT);
        due("LINESTRING(0 0,4 4,4 0,0 4,0 0,4 4)", RIGHT);
        due("MULTILINESTRING()", RIGHT);
        due("MULTILINESTRING((0 0,1 1),(0 0,1 1))", RIGHT);
        due("MULTILINESTRING((0 0,1 1),(2 2,2 2),(3 3))", "2: 2 -1 -1 -1 -1 -1 -1");
    }

    private static void openAndFew() {
        due("POLYGON()", RIGHT);
        due("POLYGON(())", "1: 0 0 0 -1 -1 -1 -1");
        due("POLYGON((1 1))", "2: 0 0 0 -1 -1 -1 -1");
        due("POLYGON((0 0,4 0))", "1: 0 0 0 -1 -1 -1 -1");
        due("POLYGON((0 0,4 0,4 4,0 1))", "1: 0 0 0 -1 -1 -1 -1");
        due("POLYGON((0 0,4 0,4 4,1 0))", "1: 0 0 0 -1 -1 -1 -1");
        due("POLYGON((0 0,4 0,0 0,4 0,0 0))", "2: 0 0 0 -1 -1 -1 -1");
        due("POLYGON((0 0,4 0,4 4,0 0))", RIGHT);
        due("POLYGON((0 0,0 0,4 0,4 0,4 4,0 0,0 0))", RIGHT);
        due("POLYGON((0 0,4 0,0 0),(1 1,2 1))", "2: 0 0 0 -1 -1 -1 -1");
        due("POLYGON((0 0,4 0),(1 1,2 1,1 1))", "1: 0 0 0 -1 -1 -1 -1");
        due("POLYGON(" + SQUARE + ",())", "1: 0 0 1 -1 -1 -1 -1");
        due("POLYGON(" + SQUARE + ",(1 1,2 1,2 2,1 1),(3 3,4 3,3 3))", "2: 0 0 2 -1 -1 -1 -1");
        // Rings are looked at before any pair of segments.
        due("POLYGON((0 0,4 4,4 0,0 4,0 0),(1 1,2 1,2 2))", "1: 0 0 1 -1 -1 -1 -1");
    }

    private static void shared() {
        due("POLYGON((0 0,4 0,2 0,0 0))", "3: 0 0 0 0 0 0 1");
        due("POLYGON((0 0,4 0,4 4,4 2,0 2,0 0))", "3: 0 0 0 1 0 0 2");
        // A segment has the number of its first point, also where points are repeated.
        due("POLYGON((0 0,0 0,4 0,4 0,4 4,4 2,0 2,0 0))", "3: 0 0 0 3 0 0 4");
        due("POLYGON((0 0,4 0,4 4,8 4,8 0,0 0))", "3: 0 0 0 0 0 0 4");
        due("POLYGON(" + SQUARE + ",(2 0,4 0,3 3,2 0))", "3: 0 0 0 0 0 1 0");
        due("POLYGON(" + SQUARE + "," + SQUARE + ")", "3: 0 0 0 0 0 1 0");
        due("POLYGON(" + SQUARE + ",(1 1,3 1,3 3,1 1),(3 2,5 2,3 4,3 2))", "3: 0 0 1 1 0 2 2");
        // Two segments of one line with one point in common share nothing more.
        due("POLYGON((0 0,2 0,4 0,4 4,0 0))", RIGHT);
    }

    private static void crossed() {
        due("POLYGON((0 0,10 10,10 0,0 10,0 0))", "4: 0 0 0 0 0 0 2");
        due("POLYGON((0 0,10 0,10 10,4 -1,0 10,0 0))", "4: 0 0 0 0 0 0 2");
        due("POLYGON(" + SQUARE + ",(2 2,12 2,4 4,2 2))", "4: 0 0 0 1 0 1 0");
        due("POLYGON(" + SQUARE + ",(1 1,5 1,5 5,1 1),(2 0,4 4,1 5,2 0))", "4: 0 0 1 0 0 2 0");
        // Through a corner of the one on a side of the other one.
        due("POLYGON(" + SQUARE + ",(5 5,10 6,15 5,5 5))", "4: 0 0 0 1 0 1 0");
        due("POLYGON(" + SQUARE + ",(15 5,10 6,5 5,15 5))", "4: 0 0 0 1 0 1 0");
        // .. where the one that leads there is the last one.
        due("POLYGON(" + SQUARE + ",(10 6,15 5,15 20,5 5,10 6))", "4: 0 0 0 1 0 1 3");
        // Through a corner of both.
        due("POLYGON(" + SQUARE + ",(8 5,10 10,8 15,8 5))", "4: 0 0 0 1 0 1 0");
        // Through the first corner of the shell: with the last segment, not with the first one.
        due("POLYGON((0 0,10 0,10 10,0 10,0 0),(3 5,0 0,-3 1,3 5))", "4: 0 0 0 3 0 1 0");
        // Along a side and off to the left of it: the corner is found before what is shared.
        due("POLYGON(" + SQUARE + ",(8 4,10 10,4 10,8 4))", "4: 0 0 0 1 0 1 0");
        // Along a side and off to the right of it: nothing there is strictly to the left.
        due("POLYGON(" + SQUARE + ",(8 14,10 10,4 10,8 14))", "3: 0 0 0 2 0 1 1");
        // A corner that only touches, from within, from both sides of a corner inwards.
        due("POLYGON(" + SQUARE + ",(10 10,5 6,6 5,10 10))", RIGHT);
        due("POLYGON((0 0,10 0,10 5,5 5,5 10,0 10,0 0),(5 5,3 7,2 2,7 3,5 5))", RIGHT);
        due("POLYGON((0 0,0 10,5 10,5 5,10 5,10 0,0 0),(5 5,7 3,2 2,3 7,5 5))", RIGHT);
        due("POLYGON((0 0,10 0,10 5,5 5,5 10,0 10,0 0),(3 3,5 5,6 6,7 4,3 3))", "4: 0 0 0 2 0 1 0");
        // A ring that passes twice, and touches only, is no crossing: it touches itself.
        due("POLYGON(" + SQUARE + ",(10 5,8 4,8 3,10 5,8 7,8 6,10 5))", "5: 0 0 1 0 0 1 2");
    }

    private static void touches() {
        due("POLYGON((0 0,10 0,10 10,5 0,0 10,0 0))", "5: 0 0 0 0 0 0 2");
        due("POLYGON((0 0,4 0,2 2,4 4,0 4,2 2,0 0))", "5: 0 0 0 1 0 0 4");
        due("POLYGON((0 0,4 0,2 2,2 2,4 4,0 4,2 2,0 0))", "5: 0 0 0 1 0 0 5");
        // End to end on one line, but no neighbours.
        due("POLYGON((0 0,2 0,1 4,2 4,2 0,4 0,4 6,0 6,0 0))", "5: 0 0 0 0 0 0 3");
        due("POLYGON((2 0,10 0,10 10,0 10,2 0,1 -5,2 -9,2 0))", "5: 0 0 0 0 0 0 3");
        due("POLYGON((2 0,10 0,10 10,0 10,2 0))", RIGHT);
        due("POLYGON(" + SQUARE + ",(1 1,9 1,5 1,5 5,1 1))", "3: 0 0 1 0 0 1 1");
    }

    private static void out() {
        due("POLYGON(" + SQUARE + ",(20 20,21 20,21 21,20 20))", "6: 0 0 1 -1 -1 -1 -1");
        due("POLYGON(" + SQUARE + ",(10 5,12 4,12 6,10 5))", "6: 0 0 1 -1 -1 -1 -1");
        due("POLYGON(" + SQUARE + ",(1 1,2 1,2 2,1 1),(12 4,10 5,12 6,12 4))",
                "6: 0 0 2 -1 -1 -1 -1");
        due("POLYGON((2 2,4 2,4 4,2 2)," + SQUARE + ")", "6: 0 0 1 -1 -1 -1 -1");
        // Left and right of a shell at the height of its corners.
        due("POLYGON((0 0,5 -5,10 0,5 5,0 0),(-3 0,-2 0,-2 1,-3 0))", "6: 0 0 1 -1 -1 -1 -1");
        due("POLYGON((0 0,5 -5,10 0,5 5,0 0),(13 0,12 0,12 1,13 0))", "6: 0 0 1 -1 -1 -1 -1");
        due("POLYGON((0 0,5 -5,10 0,5 5,0 0),(3 0,4 0,4 1,3 0))", RIGHT);
        due("POLYGON((0 0,10 0,5 5,15 0,15 10,0 10,0 0),(2 5,1 6,2 6,2 5))", RIGHT);
        // All corners on the shell, the hole in a notch of it, from each corner and both ways.
        String notched = "(0 0,10 0,10 10,8 10,8 4,2 4,2 10,0 10,0 0)";
        for (String hole : new String[] {"(8 7,5 4,2 7,8 7)", "(5 4,2 7,8 7,5 4)",
            "(2 7,8 7,5 4,2 7)", "(8 7,2 7,5 4,8 7)", "(5 4,8 7,2 7,5 4)", "(2 7,5 4,8 7,2 7)"}) {
            due("POLYGON(" + notched + "," + hole + ")", "6: 0 0 1 -1 -1 -1 -1");
        }
        due("POLYGON(" + SQUARE + ",(0 5,5 0,10 5,5 10,0 5))", "8: 0 0 -1 -1 -1 -1 -1");
    }

    private static void nested() {
        String wide = "(1 1,9 1,9 9,1 9,1 1)";
        String small = "(2 2,3 2,3 3,2 2)";
        String other = "(5 5,6 5,6 6,5 5)";
        due("POLYGON(" + SQUARE + "," + wide + "," + small + ")", "7: 0 0 1 -1 0 2 -1");
        due("POLYGON(" + SQUARE + "," + small + "," + wide + ")", "7: 0 0 1 -1 0 2 -1");
        due("POLYGON(" + SQUARE + "," + small + "," + other + "," + wide + ")",
                "7: 0 0 1 -1 0 3 -1");
        due("POLYGON((0 0,20 0,20 20,0 20,0 0),(15 15,16 15,16 16,15 15)," + small + "," + wide
                + ")", "7: 0 0 2 -1 0 3 -1");
        // All corners on the other hole.
        due("POLYGON(" + SQUARE + "," + wide + ",(5 1,9 5,5 9,1 5,5 1))", "7: 0 0 1 -1 0 2 -1");
        due("POLYGON(" + SQUARE + ",(5 1,1 5,5 9,9 5,5 1)," + wide + ")", "7: 0 0 1 -1 0 2 -1");
        due("POLYGON(" + SQUARE + "," + wide + ",(1 1,3 2,2 3,1 1))", "7: 0 0 1 -1 0 2 -1");
        // A hole outside is told before holes in one another.
        due("POLYGON(" + SQUARE + "," + wide + "," + small + ",(20 0,21 0,21 1,20 0))",
                "6: 0 0 3 -1 -1 -1 -1");
        // Nested is told before split.
        due("POLYGON(" + SQUARE + ",(0 5,1 2,10 5,1 8,0 5),(2 5,3 5,3 6,2 5))",
                "7: 0 0 1 -1 0 2 -1");
    }

    private static void split() {
        due("POLYGON(" + SQUARE + ",(0 5,5 5,5 6,0 5))", RIGHT);
        due("POLYGON(" + SQUARE + ",(0 5,10 5,5 6,0 5))", "8: 0 0 -1 -1 -1 -1 -1");
        due("POLYGON((0 0,4 0,4 4,0 4,0 0),(0 0,4 4,1 3,0 0))", "8: 0 0 -1 -1 -1 -1 -1");
        // Each hole touches the shell once.
        due("POLYGON(" + SQUARE + ",(0 5,3 4,3 6,0 5),(10 5,7 4,7 6,10 5),(5 0,4 2,6 2,5 0))",
                RIGHT);
        // A chain of holes from side to side, and one that stops short.
        due("POLYGON(" + SQUARE + ",(0 5,3 4,3 6,0 5),(3 6,6 4,6 5,3 6),(6 5,10 5,8 6,6 5))",
                "8: 0 0 -1 -1 -1 -1 -1");
        due("POLYGON(" + SQUARE + ",(0 5,3 4,3 6,0 5),(3 6,6 4,6 5,3 6),(6 5,9 5,8 6,6 5))", RIGHT);
        // Three holes in a round, at corners; and on sides.
        due("POLYGON(" + SQUARE + ",(2 2,4 1,6 2,2 2),(6 2,7 4,4 6,6 2),(4 6,2 4,2 2,4 6))",
                "8: 0 0 -1 -1 -1 -1 -1");
        due("POLYGON(" + SQUARE + ",(1 2,8 2,4 1,1 2),(7 2,8 4,6 7,7 2),(2 2,6 7,1 6,2 2))",
                "8: 0 0 -1 -1 -1 -1 -1");
        // Many holes that meet at one point only are no round.
        due("POLYGON(" + SQUARE + ",(5 5,7 4,7 6,5 5),(5 5,6 7,4 7,5 5),(5 5,3 6,3 4,5 5))", RIGHT);
        due("POLYGON(" + SQUARE + ",(0 0,2 1,3 1,0 0),(0 0,3 2,3 3,0 0),(0 0,1 3,1 4,0 0))", RIGHT);
        // .. but with a second point in common they are.
        due("POLYGON(" + SQUARE + ",(5 5,7 4,7 6,5 5),(5 5,6 7,4 7,5 5),(4 7,3 6,5 5,4 7))",
                "3: 0 0 2 2 0 3 2");
        due("POLYGON(" + SQUARE + ",(5 5,7 4,7 6,5 5),(5 5,7 7,4 7,5 5),(7 6,8 6,8 8,7 7,7 6))",
                "8: 0 0 -1 -1 -1 -1 -1");
        // Two holes that touch twice.
        due("POLYGON(" + SQUARE + ",(2 2,8 2,8 3,5 2,2 3,2 2))", "5: 0 0 1 0 0 1 2");
        due("POLYGON(" + SQUARE + ",(2 2,8 2,8 6,2 2),(8 6,9 9,1 9,2 2,3 8,8 6))",
                "8: 0 0 -1 -1 -1 -1 -1");
    }

    private static void partsInOrder() {
        due("MULTIPOLYGON()", RIGHT);
        due("MULTIPOLYGON((),())", RIGHT);
        String right = "(" + SQUARE + ")";
        due("MULTIPOLYGON(" + right + ")", RIGHT);
        due("MULTIPOLYGON(" + right + ",((20 0,30 10,30 0,20 10,20 0)))", "4: 0 1 0 0 1 0 2");
        due("MULTIPOLYGON(" + right + ",(()))", "1: 0 1 0 -1 -1 -1 -1");
        due("MULTIPOLYGON((),((1 1,2 2,1 1)))", "2: 0 1 0 -1 -1 -1 -1");
        due("MULTIPOLYGON((),(" + SQUARE + ",(20 20,21 20,21 21,20 20)))", "6: 0 1 1 -1 -1 -1 -1");
        due("MULTIPOLYGON((),(),(" + SQUARE + ",(1 1,5 1,5 5,1 1),(3 2,4 2,4 3,3 2)))",
                "7: 0 2 1 -1 2 2 -1");
        // What is wrong in a part is told before what is wrong of two parts.
        due("MULTIPOLYGON(" + right + "," + right + ",(" + SQUARE + ",(0 5,10 5,5 6,0 5)))",
                "8: 0 2 -1 -1 -1 -1 -1");
        due("MULTIPOLYGON(" + right + ",((20 0,30 0,20 0)),((20 0,30 10,30 0,20 10,20 0)))",
                "2: 0 1 0 -1 -1 -1 -1");
    }

    private static void partsSharedAndCrossed() {
        String right = "(" + SQUARE + ")";
        due("MULTIPOLYGON(" + right + "," + right + ")", "9: 0 0 0 0 1 0 0");
        due("MULTIPOLYGON(" + right + ",((10 2,14 2,14 4,10 4,10 2)))", "9: 0 0 0 1 1 0 3");
        due("MULTIPOLYGON(" + right + ",(),((10 2,10 2,14 2,14 4,10 4,10 2)))", "9: 0 0 0 1 2 0 4");
        due("MULTIPOLYGON(" + right + ",((8 8,14 9,14 14,8 8)))", "10: 0 0 0 1 1 0 0");
        // Through a corner, on a side and on a corner.
        due("MULTIPOLYGON(" + right + ",((5 5,10 6,15 5,5 5)))", "10: 0 0 0 1 1 0 0");
        due("MULTIPOLYGON(((5 5,10 6,15 5,5 5))," + right + ")", "10: 0 0 0 0 1 0 1");
        due("MULTIPOLYGON(" + right + ",((8 5,10 10,8 15,8 5)))", "10: 0 0 0 1 1 0 0");
        // Parts that touch are right.
        due("MULTIPOLYGON(" + right + ",((10 10,20 10,20 20,10 10)))", RIGHT);
        due("MULTIPOLYGON(" + right + ",((10 5,20 0,20 10,10 5)))", RIGHT);
        due("MULTIPOLYGON(" + right + ",((10 2,12 2,12 8,10 8,11 5,10 2)))", RIGHT);
        // With a hole of the other one.
        String framed = "(" + SQUARE + ",(2 2,8 2,8 8,2 8,2 2))";
        due("MULTIPOLYGON(" + framed + ",((8 7,3 3,8 3,8 7)))", "10: 0 0 1 1 1 0 1");
        due("MULTIPOLYGON(" + framed + ",((8 7,8 3,3 3,8 7)))", "9: 0 0 1 1 1 0 0");
        due("MULTIPOLYGON(((3 3,9 4,3 7,3 3))," + framed + ")", "10: 0 0 0 0 1 1 1");
        // The first one's order counts before the other one's.
        due("MULTIPOLYGON(" + right + ",((20 0,30 0,30 10,20 0)),((9 9,21 1,21 11,9 9)))",
                "10: 0 0 0 1 2 0 0");
        due("MULTIPOLYGON(" + right + ",((-1 11,-1 5,5 11,-1 11)),((10 1,12 1,10 3,10 1)))",
                "9: 0 0 0 1 2 0 2");
    }

    private static void inside() {
        String right = "(" + SQUARE + ")";
        String framed = "(" + SQUARE + ",(2 2,8 2,8 8,2 8,2 2))";
        String far = "((50 50,60 50,60 60,50 50))";
        due("MULTIPOLYGON(" + right + ",((2 2,3 2,3 3,2 2)))", "11: 0 0 -1 -1 1 -1 -1");
        due("MULTIPOLYGON(((2 2,3 2,3 3,2 2))," + right + ")", "11: 0 0 -1 -1 1 -1 -1");
        due("MULTIPOLYGON(" + far + ",(),((2 2,3 2,3 3,2 2))," + right + ")",
                "11: 0 2 -1 -1 3 -1 -1");
        due("MULTIPOLYGON(((2 2,3 2,3 3,2 2)),((4 4,5 4,5 5,4 4))," + right + ")",
                "11: 0 0 -1 -1 2 -1 -1");
        due("MULTIPOLYGON(" + right + "," + far + ")", RIGHT);
        due("MULTIPOLYGON(" + framed + ",((3 3,4 3,4 4,3 3)))", RIGHT);
        due("MULTIPOLYGON(((3 3,4 3,4 4,3 3))," + framed + ")", RIGHT);
        due("MULTIPOLYGON(" + framed + ",((0 0,1 1,1 2,0 0)))", "11: 0 0 -1 -1 1 -1 -1");
        // Round the hole, not in it.
        due("MULTIPOLYGON(" + framed + ",((1 1,9 1,9 9,1 9,1 1)))", "11: 0 0 -1 -1 1 -1 -1");
        // All corners on the hole, and on the shell.
        due("MULTIPOLYGON(" + framed + ",((5 2,8 5,5 8,2 5,5 2)))", RIGHT);
        due("MULTIPOLYGON(((5 2,2 5,5 8,8 5,5 2))," + framed + ")", RIGHT);
        due("MULTIPOLYGON(" + right + ",((5 0,10 5,5 10,0 5,5 0)))", "11: 0 0 -1 -1 1 -1 -1");
        due("MULTIPOLYGON(((0 0,10 0,10 10,8 10,8 4,2 4,2 10,0 10,0 0)),((8 7,5 4,2 7,8 7)))",
                RIGHT);
        // In the second of two holes.
        due("MULTIPOLYGON((" + SQUARE + ",(1 1,2 1,2 2,1 1),(4 4,8 4,8 8,4 8,4 4)),"
                + "((5 5,6 5,6 6,5 5)))", RIGHT);
    }

    private static void numbersOfShapes() {
        String right = "(" + SQUARE + ")";
        due("GEOMETRYCOLLECTION()", RIGHT);
        due("GEOMETRYCOLLECTION(POINT(0 0),MULTILINESTRING((0 0,1 1)),LINESTRING(5 5))",
                "2: 4 -1 -1 -1 -1 -1 -1");
        due("GEOMETRYCOLLECTION(MULTIPOLYGON(" + right + ",((20 20,21 20,21 21,20 20))),"
                + "GEOMETRYCOLLECTION(),POLYGON((0 0,10 10,10 0,0 10,0 0)))", "4: 5 0 0 0 0 0 2");
        due("GEOMETRYCOLLECTION(POINT(),MULTIPOLYGON(" + right + "," + right + "))",
                "9: 2 0 0 0 1 0 0");
        due("GEOMETRYCOLLECTION(POINT(),MULTIPOLYGON(" + right + ",((1 1,2 2))))",
                "1: 2 1 0 -1 -1 -1 -1");
        // The first shape at which something is wrong, whatever is wrong with later ones.
        due("GEOMETRYCOLLECTION(MULTIPOLYGON(" + right + "," + right + "),LINESTRING(1 1))",
                "9: 1 0 0 0 1 0 0");
        due("GEOMETRYCOLLECTION(LINESTRING(1 1),MULTIPOLYGON(" + right + "," + right + "))",
                "2: 1 -1 -1 -1 -1 -1 -1");
        // Only the parts of a MULTIPOLYGON have to be apart.
        due("GEOMETRYCOLLECTION(POLYGON" + right + ",POLYGON" + right + ")", RIGHT);
        due("GEOMETRYCOLLECTION(MULTIPOLYGON(" + right + "),MULTIPOLYGON(" + right + "))", RIGHT);
    }

    private static void exactFarOut() {
        String wide = "(-1000000000 -1000000000,1000000000 -1000000000,1000000000 1000000000,"
                + "-1000000000 1000000000,-1000000000 -1000000000)";
        due("POLYGON(" + wide + ")", RIGHT);
        due("POLYGON(" + wide + ",(-1000000000 -1000000000,1000000000 999999999,"
                + "999999999 999999999,-1000000000 -1000000000))", "8: 0 0 -1 -1 -1 -1 -1");
        // Two slim rings that miss each other by next to nothing, or share a bit.
        due("POLYGON((-1000000000 -1000000000,1000000000 999999999,1000000000 1000000000,"
                + "-1000000000 -1000000000),(-1000000000 -1000000000,999999999 999999999,"
                + "999999998 999999998,-1000000000 -1000000000))", "3: 0 0 0 2 0 1 0");
        due("MULTIPOLYGON(((-1000000000 -1000000000,1000000000 999999999,1000000000 1000000000,"
                + "-1000000000 -1000000000)),((-999999999 -999999998,999999999 1000000000,"
                + "-1000000000 1000000000,-999999999 -999999998)))", RIGHT);
        due("MULTIPOLYGON(((-1000000000 -1000000000,1000000000 999999999,1000000000 1000000000,"
                + "-1000000000 -1000000000)),((-999999999 -999999998,999999999 999999999,"
                + "-1000000000 1000000000,-999999999 -999999998)))", RIGHT);
        due("MULTIPOLYGON(((-1000000000 -1000000000,1000000000 999999999,1000000000 1000000000,"
                + "-1000000000 -1000000000)),((-999999999 -999999998,1000000000 999999999,"
                + "-1000000000 1000000000,-999999999 -999999998)))", "10: 0 0 0 2 1 0 0");
    }

    private static void again() {
        ShapeJudge judge = Draw.fresh("POLYGON(" + SQUARE + ",(2 2,12 2,4 4,2 2))");
        Check.due("judged once", Draw.verdict(judge), "4: 0 0 0 1 0 1 0");
        Check.due("judged twice", Draw.verdict(judge), "4: 0 0 0 1 0 1 0");
        Check.due("clear()", judge.clear(), 4);
        Draw.on(judge, "GEOMETRYCOLLECTION(POLYGON(" + SQUARE + "),LINESTRING(7 7))");
        Check.due("another shape", Draw.verdict(judge), "2: 2 -1 -1 -1 -1 -1 -1");
        Check.due("clear()", judge.clear(), 7);
        Draw.on(judge, "POLYGON(" + SQUARE + ")");
        Check.due("a right shape", Draw.verdict(judge), RIGHT);
    }
}
