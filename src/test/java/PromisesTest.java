import java.util.List;
import java.util.function.Consumer;

/** Promises 1 to 8, sentence by sentence: what is taken, what is refused, and by what. */
final class PromisesTest {
    private static final int FAR = 1000000000;
    private static final String SQUARE = "(0 0,10 0,10 10,0 10,0 0)";
    private static final String BOW_TIE = "POLYGON((0 0,10 10,10 0,0 10,0 0))";

    private PromisesTest() {
    }

    public static void main(String[] args) {
        sentences().forEach(Sentences::run);
        Check.end();
    }

    static List<Sentences> sentences() {
        return List.of(
                new Sentences("Promise 1: A new object")
                        .add("No shape;", PromisesTest::newHasNoShape)
                        .add("nothing was judged.", PromisesTest::newIsNotJudged),
                new Sentences("Promise 2: clear")
                        .add("No shape:", PromisesTest::clearedHasNoShape)
                        .add("how many numbers the one before had.", PromisesTest::clearedNumbers),
                new Sentences("Promise 3: open")
                        .add("A shape of a kind begins, as the whole one, or as the next part of "
                                + "the one that is open: how many are open.", PromisesTest::open)
                        .add("IllegalArgumentException, when there is no such kind;",
                                PromisesTest::openNoKind)
                        .add("IllegalStateException, when a whole one is there,",
                                PromisesTest::openBehindWhole)
                        .add("the one that is open has no such parts,",
                                PromisesTest::openNoSuchPart)
                        .add("or 50 are open;", PromisesTest::openIn50)
                        .add("UnsupportedOperationException, when there would be too many numbers.",
                                PromisesTest::openTooMany),
                new Sentences("Promise 4: ring")
                        .add("The next ring of the POLYGON that is open begins.",
                                PromisesTest::ring)
                        .add("IllegalStateException, when none is", PromisesTest::ringNowhere)
                        .add("(or a part of it would have to be closed first);",
                                PromisesTest::ringInPart)
                        .add("UnsupportedOperationException, when there would be too many numbers.",
                                PromisesTest::ringTooMany),
                new Sentences("Promise 5: point")
                        .add("The next point of the POINT (if it has none), LINESTRING, or ring "
                                + "that is open:", PromisesTest::point)
                        .add("how many there are in all.", PromisesTest::pointsInAll)
                        .add("IllegalArgumentException, when x or y is none of these;",
                                PromisesTest::pointTooFar)
                        .add("IllegalStateException, when it can have none;",
                                PromisesTest::pointNowhere)
                        .add("UnsupportedOperationException, when there are 4096.",
                                PromisesTest::pointTooMany),
                new Sentences("Promise 6: close")
                        .add("The shape that was opened last is whole: how many are open then.",
                                PromisesTest::close)
                        .add("IllegalStateException, when none is.", PromisesTest::closeNone),
                new Sentences("Promise 7: judge")
                        .add("Judges the shape: 0 when it is right, else what is wrong.",
                                PromisesTest::judge)
                        .add("IllegalStateException, when there is none that is whole.",
                                PromisesTest::judgeNone),
                new Sentences("Promise 8: place")
                        .add("Where the latest judging found something wrong:",
                                PromisesTest::placeOfLatest)
                        .add("the shape's number (0);", PromisesTest::placeOfShape)
                        .add("part, ring and segment of the one (1, 2, 3), of the other one "
                                + "(4, 5, 6):", PromisesTest::placesOfBoth)
                        .add("NONE for what is not told:", PromisesTest::placesNotTold)
                        .add("parts are (0 in a POLYGON), but for a LINESTRING;",
                                PromisesTest::placeOfPart)
                        .add("rings by 1 to 7, 9 and 10;", PromisesTest::placeOfRing)
                        .add("segments, and the other one's, by 3 to 5, 9, 10;",
                                PromisesTest::placeOfSegments)
                        .add("the other one's ring by 7, too, its part by 7 and 11.",
                                PromisesTest::placeOfOther)
                        .add("NONE for all when nothing is wrong,", PromisesTest::placesWhenRight)
                        .add("or nothing was judged since the latest clear().",
                                PromisesTest::placesNotJudged)
                        .add("IndexOutOfBoundsException, for another what.",
                                PromisesTest::otherPlaces));
    }

    private static void dueNoShape(String when, Consumer<ShapeJudge> before) {
        Calls.dueRefused(when + ": judge()", before, j -> j.judge(), Calls.STATE);
        Calls.dueRefused(when + ": close()", before, j -> j.close(), Calls.STATE);
        Calls.dueRefused(when + ": point()", before, j -> j.point(0, 0), Calls.STATE);
        Calls.dueRefused(when + ": ring()", before, j -> j.ring(), Calls.STATE);
        Check.due(when + ": clear()", Calls.made(before).clear(), 0);
        for (int kind = 1; kind <= 7; kind++) {
            Check.due(when + ": open(" + kind + ")", Calls.made(before).open(kind), 1);
        }
    }

    private static void newHasNoShape() {
        dueNoShape("new", judge -> { });
    }

    private static void newIsNotJudged() {
        Check.due("places", Calls.places(new ShapeJudge()), Calls.NO_PLACES);
    }

    private static void clearedHasNoShape() {
        dueNoShape("a new one cleared", judge -> judge.clear());
        dueNoShape("an open one cleared", judge -> {
            Calls.open(judge, 7, 6, 3);
            judge.ring();
            judge.point(1, 1);
            judge.clear();
        });
        dueNoShape("a POINT with its point cleared", judge -> {
            Draw.on(judge, "POINT(3 4)");
            judge.clear();
        });
        dueNoShape("a judged one cleared", judge -> {
            Draw.on(judge, BOW_TIE);
            judge.judge();
            judge.clear();
        });
        ShapeJudge judge = Draw.fresh(BOW_TIE);
        judge.judge();
        judge.clear();
        judge.open(3);
        Check.dueThrow("a point without a ring, where one was before", () -> judge.point(0, 0),
                Calls.STATE);
        judge.ring();
        Check.due("points count anew", judge.point(1, 1), 1);
        judge.close();
        Check.due("the new shape is judged", Draw.verdict(judge), "2: 0 0 0 -1 -1 -1 -1");
    }

    private static void clearedNumbers() {
        Check.due("of a new object", new ShapeJudge().clear(), 0);
        for (int kind = 1; kind <= 7; kind++) {
            Check.due("of an open " + kind, Calls.opened(kind).clear(), 2);
        }
        ShapeJudge judge = Draw.fresh("POLYGON((),(),())");
        Check.due("of a whole one with three rings", judge.clear(), 5);
        Check.due("of none", judge.clear(), 0);
        Draw.on(judge, "GEOMETRYCOLLECTION(POINT(1 1),LINESTRING(1 1,2 2),POLYGON(" + SQUARE
                + "),MULTIPOINT(()),MULTIPOLYGON(((),()),(())))");
        judge.judge();
        Check.due("of ten shapes", judge.clear(), 2 * 9 + 4);
        Calls.open(judge, 7, 5);
        Check.due("of the next one", judge.clear(), 4);
        Draw.on(judge, "LINESTRING(1 1,2 2,3 3,4 4)");
        Check.due("points have none", judge.clear(), 2);
    }

    private static void open() {
        for (int kind = 1; kind <= 7; kind++) {
            Check.due("the whole one", new ShapeJudge().open(kind), 1);
        }
        ShapeJudge judge = Calls.opened(7);
        Check.due("a part", judge.open(7), 2);
        Check.due("a part of a part", judge.open(4), 3);
        Check.due("a part of a part's part", judge.open(1), 4);
        judge.close();
        Check.due("the next part there", judge.open(1), 4);
        judge.close();
        judge.close();
        Check.due("the next part of the part", judge.open(2), 3);
        judge.close();
        judge.close();
        Check.due("the next part of the whole one", judge.open(6), 2);
        Check.due("numbers of them all", judge.clear(), 14);
    }

    private static void openNoKind() {
        for (int kind : new int[] {0, 8, -1, Integer.MIN_VALUE, Integer.MAX_VALUE}) {
            Calls.dueRefused("open(" + kind + ") at first", judge -> { }, j -> j.open(kind),
                    Calls.ARGUMENT);
            Calls.dueRefused("open(" + kind + ") as a part", judge -> judge.open(7),
                    j -> j.open(kind), Calls.ARGUMENT);
        }
    }

    private static void openBehindWhole() {
        for (int whole = 1; whole <= 7; whole++) {
            for (int kind = 1; kind <= 7; kind++) {
                int first = whole;
                int next = kind;
                Calls.dueRefused("open(" + kind + ") behind a " + whole,
                        judge -> Calls.empty(judge, first), j -> j.open(next), Calls.STATE);
            }
        }
        Calls.dueRefused("open(7) behind one that was judged", judge -> {
            Draw.on(judge, BOW_TIE);
            judge.judge();
        }, j -> j.open(7), Calls.STATE);
    }

    private static void openNoSuchPart() {
        for (int outer = 1; outer <= 6; outer++) {
            for (int inner = 1; inner <= 7; inner++) {
                int whole = outer;
                int part = inner;
                if (outer < 4 || inner != outer - 3) {
                    Calls.dueRefused("open(" + inner + ") in a " + outer,
                            judge -> judge.open(whole), j -> j.open(part), Calls.STATE);
                }
            }
        }
        Calls.dueRefused("a part of the whole one, in a part", judge -> Calls.open(judge, 7, 5),
                j -> j.open(1), Calls.STATE);
        Calls.dueRefused("a POLYGON in a ring", judge -> {
            Calls.open(judge, 7, 3);
            judge.ring();
        }, j -> j.open(3), Calls.STATE);
    }

    private static void openIn50() {
        Consumer<ShapeJudge> fiftyOpen = judge -> Calls.repeat(50, () -> judge.open(7));
        for (int kind = 1; kind <= 7; kind++) {
            int part = kind;
            Calls.dueRefused("open(" + kind + ") in 50", fiftyOpen, j -> j.open(part), Calls.STATE);
        }
        ShapeJudge judge = new ShapeJudge();
        for (int depth = 1; depth <= 50; depth++) {
            Check.due("open(7) at depth " + depth, judge.open(7), depth);
        }
        judge.close();
        Check.due("open(4) as the 50th", judge.open(4), 50);
        Calls.dueRefused("open(1) in a MULTIPOINT that is the 50th", j -> {
            Calls.repeat(49, () -> j.open(7));
            j.open(4);
        }, j -> j.open(1), Calls.STATE);
    }

    /** So many numbers that n are left, while a GEOMETRYCOLLECTION is open. */
    private static void leaveNumbers(ShapeJudge judge, int left) {
        Calls.open(judge, 7, 3);
        Calls.repeat(4096 - 4 - left, () -> judge.ring());
        judge.close();
    }

    private static void openTooMany() {
        for (int kind = 1; kind <= 7; kind++) {
            int part = kind;
            Calls.dueRefused("open(" + kind + ") with 4096 numbers",
                    judge -> leaveNumbers(judge, 0), j -> j.open(part), Calls.UNSUPPORTED);
            Calls.dueRefused("open(" + kind + ") with 4095 numbers",
                    judge -> leaveNumbers(judge, 1), j -> j.open(part), Calls.UNSUPPORTED);
            ShapeJudge judge = Calls.made(j -> leaveNumbers(j, 2));
            Check.due("open(" + kind + ") with 4094 numbers", judge.open(kind), 2);
            Check.due("all numbers", judge.clear(), 4096);
            Check.due("open(" + kind + ") when they are cleared", judge.open(kind), 1);
        }
        ShapeJudge judge = Calls.opened(7);
        Calls.repeat(2047, () -> Calls.empty(judge, 3));
        Check.dueThrow("one shape more than 2048", () -> judge.open(3), Calls.UNSUPPORTED);
        judge.close();
        Check.due("judge() of 2048 shapes", judge.judge(), 0);
        Check.due("the numbers of 2048 shapes", judge.clear(), 4096);
    }

    private static void ring() {
        ShapeJudge judge = Calls.opened(3);
        Check.due("the first ring", Calls.ring(judge), "nothing");
        Check.due("its point", judge.point(1, 1), 1);
        Check.due("the second ring", Calls.ring(judge), "nothing");
        Check.due("the third ring", Calls.ring(judge), "nothing");
        judge.close();
        Check.due("the second one is empty, the first is not", Draw.verdict(judge),
                "2: 0 0 0 -1 -1 -1 -1");
        Check.due("numbers", judge.clear(), 5);
        judge.open(6);
        Calls.empty(judge, 3);
        judge.open(3);
        Check.due("a ring of a part", Calls.ring(judge), "nothing");
        judge.close();
        judge.close();
        Check.due("the part that has it", Draw.verdict(judge), "1: 0 1 0 -1 -1 -1 -1");
    }

    private static void ringNowhere() {
        Calls.dueRefused("with no shape", judge -> { }, j -> j.ring(), Calls.STATE);
        for (int kind : new int[] {1, 2, 4, 5, 6, 7}) {
            Calls.dueRefused("in a " + kind, judge -> judge.open(kind), j -> j.ring(),
                    Calls.STATE);
        }
        Calls.dueRefused("of a whole one", judge -> Draw.on(judge, "POLYGON(" + SQUARE + ")"),
                j -> j.ring(), Calls.STATE);
        Calls.dueRefused("behind a POLYGON", judge -> {
            judge.open(6);
            Calls.empty(judge, 3);
        }, j -> j.ring(), Calls.STATE);
    }

    /** A POLYGON has no parts; what may lie open elsewhere is a part of what is round it. */
    private static void ringInPart() {
        Calls.dueRefused("in a POINT behind a POLYGON", judge -> {
            judge.open(7);
            Calls.empty(judge, 3);
            judge.open(1);
        }, j -> j.ring(), Calls.STATE);
        Calls.dueRefused("in a LINESTRING behind a POLYGON", judge -> {
            judge.open(7);
            Calls.empty(judge, 3);
            judge.open(2);
            judge.point(1, 1);
        }, j -> j.ring(), Calls.STATE);
    }

    private static void ringTooMany() {
        Consumer<ShapeJudge> full = judge -> {
            judge.open(3);
            Calls.repeat(4094, () -> judge.ring());
        };
        Calls.dueRefused("with 4096 numbers", full, j -> j.ring(), Calls.UNSUPPORTED);
        ShapeJudge judge = Calls.made(full);
        Check.due("a point in the last ring", judge.point(1, 1), 1);
        Check.due("all numbers", judge.clear(), 4096);
        judge.open(7);
        Calls.repeat(2045, () -> Calls.empty(judge, 1));
        judge.open(3);
        Check.due("with 4094 numbers", Calls.ring(judge), "nothing");
        Check.due("with 4095 numbers", Calls.ring(judge), "nothing");
        Check.due("with 4096 numbers", Calls.ring(judge), "throws.UnsupportedOperationException");
        Check.due("all numbers", judge.clear(), 4096);
    }

    private static void point() {
        ShapeJudge judge = Calls.opened(7, 1);
        Check.due("of a POINT", judge.point(3, 4), 1);
        judge.close();
        judge.open(2);
        Check.due("of a LINESTRING", judge.point(5, 5), 2);
        Check.due("the same again", judge.point(5, 5), 3);
        judge.close();
        judge.open(3);
        judge.ring();
        Check.due("of a ring", judge.point(0, 0), 4);
        Check.due("of a ring", judge.point(9, 9), 5);
        judge.close();
        judge.close();
        Check.due("each is where it came", Draw.verdict(judge), "2: 2 -1 -1 -1 -1 -1 -1");
        judge.clear();
        judge.open(3);
        judge.ring();
        judge.point(1, 1);
        judge.point(1, 1);
        judge.ring();
        judge.point(2, 2);
        judge.close();
        Check.due("of the ring that began last", Draw.verdict(judge), "2: 0 0 0 -1 -1 -1 -1");
    }

    private static void pointsInAll() {
        ShapeJudge judge = Calls.opened(7);
        for (int i = 0; i < 5; i++) {
            judge.open(1);
            Check.due("in POINTs", judge.point(i, i), 4 * i + 1);
            judge.close();
            Calls.open(judge, 6, 3);
            judge.ring();
            Check.due("in first rings", judge.point(i, i), 4 * i + 2);
            judge.ring();
            Check.due("in second rings", judge.point(i, i), 4 * i + 3);
            judge.close();
            judge.close();
            judge.open(2);
            Check.due("in LINESTRINGs", judge.point(i, i), 4 * i + 4);
            judge.close();
        }
    }

    private static void pointTooFar() {
        for (int bad : new int[] {FAR + 1, -FAR - 1, Integer.MAX_VALUE, Integer.MIN_VALUE}) {
            for (int kind : new int[] {1, 2}) {
                Calls.dueRefused("point(" + bad + ", 0)", judge -> judge.open(kind),
                        j -> j.point(bad, 0), Calls.ARGUMENT);
                Calls.dueRefused("point(0, " + bad + ")", judge -> judge.open(kind),
                        j -> j.point(0, bad), Calls.ARGUMENT);
            }
            Calls.dueRefused("point(" + bad + ", " + bad + ")", judge -> {
                judge.open(3);
                judge.ring();
            }, j -> j.point(bad, bad), Calls.ARGUMENT);
        }
        for (int far : new int[] {FAR, -FAR}) {
            Check.due("point(" + far + ", 0)", Calls.opened(1).point(far, 0), 1);
            Check.due("point(0, " + far + ")", Calls.opened(1).point(0, far), 1);
        }
    }

    private static void pointNowhere() {
        Calls.dueRefused("with no shape", judge -> { }, j -> j.point(0, 0), Calls.STATE);
        Calls.dueRefused("a second one of a POINT", judge -> {
            judge.open(1);
            judge.point(3, 4);
        }, j -> j.point(5, 6), Calls.STATE);
        Calls.dueRefused("a second one of a POINT behind others", judge -> {
            judge.open(4);
            judge.open(1);
            judge.point(3, 4);
            judge.close();
            judge.open(1);
            judge.point(3, 4);
        }, j -> j.point(3, 4), Calls.STATE);
        Calls.dueRefused("a POLYGON without a ring", judge -> judge.open(3), j -> j.point(0, 0),
                Calls.STATE);
        Calls.dueRefused("a POLYGON without a ring behind one that has some", judge -> {
            judge.open(6);
            judge.open(3);
            judge.ring();
            judge.point(0, 0);
            judge.close();
            judge.open(3);
        }, j -> j.point(0, 0), Calls.STATE);
        for (int kind = 4; kind <= 7; kind++) {
            int outer = kind;
            Calls.dueRefused("in a " + kind, judge -> judge.open(outer), j -> j.point(0, 0),
                    Calls.STATE);
        }
        Calls.dueRefused("in a MULTILINESTRING behind its part", judge -> {
            judge.open(5);
            Calls.empty(judge, 2);
        }, j -> j.point(0, 0), Calls.STATE);
        for (String whole : new String[] {"POINT()", "LINESTRING(1 1)", BOW_TIE}) {
            Calls.dueRefused("of a whole " + whole, judge -> Draw.on(judge, whole),
                    j -> j.point(0, 0), Calls.STATE);
        }
    }

    private static void pointTooMany() {
        Consumer<ShapeJudge> full = judge -> {
            Calls.open(judge, 7, 2);
            Calls.repeat(4096, () -> judge.point(7, 7));
        };
        Calls.dueRefused("in a LINESTRING", full, j -> j.point(0, 0), Calls.UNSUPPORTED);
        Calls.dueRefused("in a POINT", judge -> {
            full.accept(judge);
            judge.close();
            judge.open(1);
        }, j -> j.point(0, 0), Calls.UNSUPPORTED);
        Calls.dueRefused("in a ring", judge -> {
            full.accept(judge);
            judge.close();
            judge.open(3);
            judge.ring();
        }, j -> j.point(0, 0), Calls.UNSUPPORTED);
        ShapeJudge judge = Calls.opened(2);
        for (int points = 1; points <= 4096; points++) {
            Check.due("point " + points, judge.point(points, 0), points);
        }
        judge.close();
        Check.due("judge() of 4096 points", judge.judge(), 0);
        judge.clear();
        judge.open(2);
        Check.due("when they are cleared", judge.point(0, 0), 1);
    }

    private static void close() {
        for (int kind = 1; kind <= 7; kind++) {
            Check.due("the whole one", Calls.opened(kind).close(), 0);
        }
        ShapeJudge judge = Calls.opened(7, 7, 6, 3);
        Check.due("a POLYGON", judge.close(), 3);
        Check.due("the next POLYGON", judge.open(3), 4);
        Check.due("the next POLYGON", judge.close(), 3);
        Check.due("the MULTIPOLYGON", judge.close(), 2);
        Check.due("what is open then takes parts", judge.open(1), 3);
        Check.due("a POINT", judge.close(), 2);
        Check.due("the inner one", judge.close(), 1);
        Check.due("the whole one", judge.close(), 0);
        Check.due("it is whole", judge.judge(), 0);
        ShapeJudge deep = Calls.made(j -> Calls.repeat(50, () -> j.open(7)));
        for (int left = 49; left >= 0; left--) {
            Check.due("one of 50", deep.close(), left);
        }
    }

    private static void closeNone() {
        Calls.dueRefused("of a new object", judge -> { }, j -> j.close(), Calls.STATE);
        for (int kind = 1; kind <= 7; kind++) {
            int whole = kind;
            Calls.dueRefused("of a whole " + kind, judge -> Calls.empty(judge, whole),
                    j -> j.close(), Calls.STATE);
        }
        Calls.dueRefused("of one that was cleared while it was open", judge -> {
            Calls.open(judge, 7, 7);
            judge.clear();
        }, j -> j.close(), Calls.STATE);
        Calls.dueRefused("of one that was judged", judge -> {
            Draw.on(judge, BOW_TIE);
            judge.judge();
        }, j -> j.close(), Calls.STATE);
    }

    private static void judge() {
        for (int kind = 1; kind <= 7; kind++) {
            Check.due("an empty " + kind, Calls.made(emptyOf(kind)).judge(), 0);
        }
        for (String[] row : FaultsTest.ONE_OF_EACH) {
            Check.due(row[0], String.valueOf(Draw.fresh(row[0]).judge()),
                    row[1].substring(0, row[1].indexOf(':')));
        }
        ShapeJudge judge = Draw.fresh(BOW_TIE);
        Calls.repeat(3, () -> Check.due("judged again", judge.judge(), 4));
        judge.clear();
        Draw.on(judge, "LINESTRING(7 7)");
        Check.due("another one", judge.judge(), 2);
        judge.clear();
        Draw.on(judge, "POLYGON(" + SQUARE + ")");
        Calls.repeat(3, () -> Check.due("a right one", judge.judge(), 0));
        Check.due("judging takes nothing away", judge.clear(), 3);
    }

    private static Consumer<ShapeJudge> emptyOf(int kind) {
        return judge -> Calls.empty(judge, kind);
    }

    private static void judgeNone() {
        Calls.dueRefused("of a new object", judge -> { }, j -> j.judge(), Calls.STATE);
        Calls.dueRefused("of one that was cleared", judge -> {
            Draw.on(judge, BOW_TIE);
            judge.clear();
        }, j -> j.judge(), Calls.STATE);
        for (int kind = 1; kind <= 7; kind++) {
            int open = kind;
            Calls.dueRefused("of an open " + kind, judge -> judge.open(open), j -> j.judge(),
                    Calls.STATE);
        }
        Calls.dueRefused("of one whose parts are whole", judge -> {
            judge.open(7);
            Calls.empty(judge, 1);
        }, j -> j.judge(), Calls.STATE);
    }

    private static void placeOfLatest() {
        ShapeJudge judge = Draw.fresh(BOW_TIE);
        judge.judge();
        Check.due("the first one", Calls.places(judge), "0 0 0 0 0 0 2");
        judge.judge();
        Check.due("judged again", Calls.places(judge), "0 0 0 0 0 0 2");
        Check.dueThrow("open()", () -> judge.open(3), Calls.STATE);
        Check.dueThrow("point()", () -> judge.point(1, 1), Calls.STATE);
        Check.due("ring()", Calls.ring(judge), "throws.IllegalStateException");
        Check.dueThrow("close()", () -> judge.close(), Calls.STATE);
        Check.due("after calls that were refused", Calls.places(judge), "0 0 0 0 0 0 2");
        judge.clear();
        Draw.on(judge, "MULTIPOLYGON((" + SQUARE + "),((2 2,3 2,3 3,2 2)))");
        judge.judge();
        Check.due("the next one", Calls.places(judge), "0 0 -1 -1 1 -1 -1");
    }

    private static void placeOfShape() {
        for (String[] row : FaultsTest.ONE_OF_EACH) {
            ShapeJudge first = Draw.fresh(row[0]);
            first.judge();
            Check.due(row[0], first.place(0), 0);
            ShapeJudge later = Draw.fresh("GEOMETRYCOLLECTION(POINT(),MULTIPOINT(())," + row[0]
                    + ")");
            later.judge();
            Check.due(row[0] + " behind three others in one", later.place(0), 4);
        }
    }

    private static void placesOfBoth() {
        ShapeJudge judge = Draw.fresh("MULTIPOLYGON((),(),((0 0,50 0,50 50,0 50,0 0),"
                + "(21 21,29 21,29 29,21 29,21 21),(1 1,1 1,9 1,9 9,5 9,8 -1,1 1)))");
        Check.due("judge()", judge.judge(), 4);
        Check.due("places", Calls.places(judge), "0 2 0 0 2 2 4");
        judge.clear();
        // A hole of the one, the last of three rings, and a hole of the other one.
        Draw.on(judge, "GEOMETRYCOLLECTION(MULTIPOLYGON((),((0 0,50 0,50 50,0 50,0 0),"
                + "(45 45,46 45,46 46,45 45),(20 20,30 20,30 30,20 30,20 20)),(),(),"
                + "((10 10,40 10,40 40,10 40,10 10),(25 25,25 25,35 25,35 28,25 25))))");
        Check.due("judge()", judge.judge(), 10);
        Check.due("places", Calls.places(judge), "1 1 2 1 4 1 1");
    }

    private static void placesNotTold() {
        for (String[] row : FaultsTest.ONE_OF_EACH) {
            Check.due(row[0], Draw.verdict(Draw.fresh(row[0])), row[1]);
        }
    }

    private static void placeOfPart() {
        dueAt("LINESTRING(1 1)", 1, -1);
        dueAt("MULTILINESTRING((1 1,2 2),(1 1))", 1, -1);
        for (String[] row : FaultsTest.ONE_OF_EACH) {
            if (row[0].startsWith("POLYGON")) {
                dueAt(row[0], 1, 0);
                String part = row[0].substring("POLYGON".length());
                dueAt("MULTIPOLYGON(" + part + ")", 1, 0);
                dueAt("MULTIPOLYGON((),()," + part + ")", 1, 2);
            }
        }
        String far = "((90 90,91 90,91 91,90 90))";
        dueAt("MULTIPOLYGON(" + far + ",(" + SQUARE + "),(" + SQUARE + "))", 1, 1);
        dueAt("MULTIPOLYGON(" + far + ",(" + SQUARE + "),((5 5,15 5,15 6,5 5)))", 1, 1);
        dueAt("MULTIPOLYGON(" + far + ",(" + SQUARE + "),((5 5,6 5,6 6,5 5)))", 1, 1);
    }

    private static void dueAt(String shape, int what, int want) {
        ShapeJudge judge = Draw.fresh(shape);
        judge.judge();
        Check.due("place(" + what + ") of " + shape, judge.place(what), want);
    }

    private static void dueTold(int what, String... faults) {
        for (String[] row : FaultsTest.ONE_OF_EACH) {
            if (row[0].startsWith("LINESTRING")) {
                dueAt(row[0], what, -1);
                continue;
            }
            boolean told = false;
            for (String fault : faults) {
                told |= row[1].startsWith(fault + ":");
            }
            ShapeJudge judge = Draw.fresh(row[0]);
            judge.judge();
            Check.due("place(" + what + ") of " + row[0], judge.place(what) != -1, told);
        }
    }

    private static void placeOfRing() {
        dueTold(2, "1", "2", "3", "4", "5", "6", "7", "9", "10");
        dueAt("POLYGON(" + SQUARE + ",(1 1,2 1,2 2,1 1),())", 2, 2);
        dueAt("POLYGON(" + SQUARE + ",(1 1,2 1,2 2,1 1),(3 3))", 2, 2);
        dueAt("POLYGON(" + SQUARE + ",(1 1,2 1,2 2,1 1),(20 3,21 3,21 4,20 3))", 2, 2);
    }

    private static void placeOfSegments() {
        dueTold(3, "3", "4", "5", "9", "10");
        dueTold(6, "3", "4", "5", "9", "10");
    }

    private static void placeOfOther() {
        dueTold(5, "3", "4", "5", "7", "9", "10");
        dueTold(4, "3", "4", "5", "7", "9", "10", "11");
        String nested = "(" + SQUARE + ",(8 8,9 8,9 9,8 8),(1 1,5 1,5 5,1 1),(3 2,4 2,4 3,3 2))";
        dueAt("POLYGON" + nested, 5, 3);
        dueAt("POLYGON" + nested, 4, 0);
        dueAt("MULTIPOLYGON((),()," + nested + ")", 4, 2);
    }

    private static void placesWhenRight() {
        for (String right : new String[] {"POINT()", "POINT(1 1)", "LINESTRING()",
            "LINESTRING(0 0,1 1)", "POLYGON()", "POLYGON(" + SQUARE + ")", "MULTIPOLYGON()",
            "MULTIPOLYGON((" + SQUARE + "))", "GEOMETRYCOLLECTION(POINT(1 1))"}) {
            ShapeJudge judge = Draw.fresh(right);
            Check.due("judge() of " + right, judge.judge(), 0);
            Check.due(right, Calls.places(judge), Calls.NO_PLACES);
            judge.clear();
            Draw.on(judge, BOW_TIE);
            judge.judge();
            judge.clear();
            Draw.on(judge, right);
            judge.judge();
            Check.due(right + " behind a wrong one", Calls.places(judge), Calls.NO_PLACES);
        }
    }

    private static void placesNotJudged() {
        ShapeJudge judge = Draw.fresh(BOW_TIE);
        Check.due("a wrong shape, not judged", Calls.places(judge), Calls.NO_PLACES);
        judge.judge();
        judge.clear();
        Check.due("cleared", Calls.places(judge), Calls.NO_PLACES);
        judge.open(3);
        Check.dueThrow("judge() of an open one", () -> judge.judge(), Calls.STATE);
        Check.due("a judging that was refused", Calls.places(judge), Calls.NO_PLACES);
        judge.clear();
        Draw.on(judge, BOW_TIE);
        Check.due("cleared, and a wrong shape again", Calls.places(judge), Calls.NO_PLACES);
        Check.due("which is judged", Draw.verdict(judge), "4: 0 0 0 0 0 0 2");
    }

    private static void otherPlaces() {
        Consumer<ShapeJudge> wrong = judge -> {
            Draw.on(judge, BOW_TIE);
            judge.judge();
        };
        for (int what : new int[] {-1, 7, 8, Integer.MIN_VALUE, Integer.MAX_VALUE}) {
            Calls.dueRefused("place(" + what + ") of a new object", judge -> { },
                    j -> j.place(what), Calls.INDEX);
            Calls.dueRefused("place(" + what + ") of an open shape", judge -> judge.open(3),
                    j -> j.place(what), Calls.INDEX);
            Calls.dueRefused("place(" + what + ") of a wrong shape", wrong,
                    j -> j.place(what), Calls.INDEX);
        }
        for (int what : new int[] {0, 6}) {
            Check.due("place(" + what + ") of a new object", new ShapeJudge().place(what), -1);
        }
        Check.due("place(0)", Calls.made(wrong).place(0), 0);
        Check.due("place(6)", Calls.made(wrong).place(6), 2);
    }
}
