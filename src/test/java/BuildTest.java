/** Promises 1 to 6: how a shape is built, what is counted, and what is refused. */
final class BuildTest {
    private static final Class<IllegalArgumentException> ARGUMENT = IllegalArgumentException.class;
    private static final Class<IllegalStateException> STATE = IllegalStateException.class;
    private static final Class<UnsupportedOperationException> UNSUPPORTED =
            UnsupportedOperationException.class;

    private BuildTest() {
    }

    public static void main(String[] args) {
        newObject();
        clear();
        openKinds();
        openParts();
        openDepth();
        openNumbers();
        ring();
        point();
        pointRange();
        pointLimit();
        close();
        orderOfExceptions();
        Check.end();
    }

    private static String ringAnswer(ShapeJudge judge) {
        return Check.answer(() -> {
            judge.ring();
            return "nothing";
        });
    }

    private static ShapeJudge opened(int... kinds) {
        ShapeJudge judge = new ShapeJudge();
        for (int kind : kinds) {
            judge.open(kind);
        }
        return judge;
    }

    private static void newObject() {
        ShapeJudge judge = new ShapeJudge();
        for (int what = 0; what < 7; what++) {
            Check.due("new: place(" + what + ")", judge.place(what), -1);
        }
        Check.dueThrow("new: judge()", () -> judge.judge(), STATE);
        Check.dueThrow("new: close()", () -> judge.close(), STATE);
        Check.dueThrow("new: point()", () -> judge.point(0, 0), STATE);
        Check.due("new: ring()", ringAnswer(judge), "throws.IllegalStateException");
        Check.due("new: clear()", judge.clear(), 0);
    }

    private static void clear() {
        ShapeJudge judge = opened(3);
        Check.due("clear() of an open shape", judge.clear(), 2);
        Check.due("clear() twice", judge.clear(), 0);
        judge.open(7);
        judge.open(3);
        judge.ring();
        judge.ring();
        judge.point(1, 2);
        Check.due("clear() of open shapes and rings", judge.clear(), 6);
        Check.dueThrow("close() after clear()", () -> judge.close(), STATE);
        Check.dueThrow("point() after clear()", () -> judge.point(0, 0), STATE);
        Check.due("ring() after clear()", ringAnswer(judge), "throws.IllegalStateException");
        Check.due("open() after clear()", judge.open(2), 1);
        Check.due("point() counts anew after clear()", judge.point(0, 0), 1);
        judge.close();
        Check.due("clear() of a whole shape", judge.clear(), 2);
        Check.dueThrow("judge() after clear()", () -> judge.judge(), STATE);
    }

    private static void openKinds() {
        for (int kind : new int[] {0, 8, -1, Integer.MIN_VALUE, Integer.MAX_VALUE}) {
            Check.dueThrow("open(" + kind + ")", () -> new ShapeJudge().open(kind), ARGUMENT);
        }
        for (int kind = 1; kind <= 7; kind++) {
            ShapeJudge judge = new ShapeJudge();
            Check.due("open(" + kind + ")", judge.open(kind), 1);
            judge.close();
            Check.dueThrow("open(7) behind a whole one", () -> judge.open(7), STATE);
            Check.due("clear()", judge.clear(), 2);
        }
    }

    private static void openParts() {
        for (int outer = 1; outer <= 7; outer++) {
            for (int inner = 1; inner <= 7; inner++) {
                ShapeJudge judge = opened(outer);
                int kind = inner;
                boolean fits = outer == 7 || outer > 3 && inner == outer - 3;
                Check.due("open(" + inner + ") in " + outer, Check.answer(() -> judge.open(kind)),
                        fits ? "2" : "throws.IllegalStateException");
                Check.due("numbers of " + outer + " with " + inner, judge.clear(), fits ? 4 : 2);
            }
        }
        ShapeJudge judge = opened(7, 5);
        Check.due("a first part", judge.open(2), 3);
        judge.close();
        Check.due("a second part", judge.open(2), 3);
        judge.close();
        Check.dueThrow("a part of the outer one only", () -> judge.open(1), STATE);
        judge.close();
        Check.due("a part of the outer one", judge.open(1), 2);
    }

    private static void openDepth() {
        ShapeJudge judge = new ShapeJudge();
        for (int depth = 1; depth <= 50; depth++) {
            Check.due("open(7) at depth " + depth, judge.open(7), depth);
        }
        Check.dueThrow("open(7) with 50 open", () -> judge.open(7), STATE);
        Check.dueThrow("open(8) with 50 open", () -> judge.open(8), ARGUMENT);
        Check.due("close() of the 50th", judge.close(), 49);
        Check.due("open(4) as the 50th", judge.open(4), 50);
        Check.dueThrow("open(1) with 50 open", () -> judge.open(1), STATE);
        for (int left = 49; left >= 0; left--) {
            Check.due("close()", judge.close(), left);
        }
        Check.due("judge() of what lies deep", judge.judge(), 0);
        Check.due("numbers of 51 shapes", judge.clear(), 102);
    }

    private static void openNumbers() {
        ShapeJudge judge = opened(7);
        for (int shapes = 1; shapes < 2048; shapes++) {
            judge.open(3);
            judge.close();
        }
        Check.dueThrow("open(3) with 4096 numbers", () -> judge.open(3), UNSUPPORTED);
        judge.close();
        Check.dueThrow("open(3) behind a whole one", () -> judge.open(3), STATE);
        Check.due("judge() of all numbers", judge.judge(), 0);
        Check.due("all numbers", judge.clear(), 4096);

        judge.open(7);
        judge.open(3);
        for (int rings = 0; rings < 4091; rings++) {
            judge.ring();
        }
        judge.close();
        Check.dueThrow("open(3) with 4095 numbers", () -> judge.open(3), UNSUPPORTED);
        Check.due("clear()", judge.clear(), 4095);
    }

    private static void ring() {
        for (int kind = 1; kind <= 7; kind++) {
            ShapeJudge judge = opened(kind);
            Check.due("ring() in " + kind, ringAnswer(judge),
                    kind == 3 ? "nothing" : "throws.IllegalStateException");
            Check.due("numbers", judge.clear(), kind == 3 ? 3 : 2);
        }
        ShapeJudge judge = opened(6, 3);
        judge.ring();
        judge.close();
        Check.due("ring() between parts", ringAnswer(judge), "throws.IllegalStateException");
        judge.close();
        Check.due("ring() of a whole one", ringAnswer(judge), "throws.IllegalStateException");

        judge.clear();
        judge.open(3);
        for (int rings = 1; rings <= 4094; rings++) {
            judge.ring();
        }
        Check.due("ring() with 4096 numbers", ringAnswer(judge),
                "throws.UnsupportedOperationException");
        Check.due("a point in the last ring", judge.point(1, 1), 1);
        judge.close();
        Check.due("ring() of a whole one with 4096 numbers", ringAnswer(judge),
                "throws.IllegalStateException");
        Check.due("clear()", judge.clear(), 4096);
    }

    private static void point() {
        ShapeJudge judge = opened(7, 1);
        Check.due("the point of a POINT", judge.point(3, 4), 1);
        Check.dueThrow("a second point of a POINT", () -> judge.point(3, 4), STATE);
        judge.close();
        Check.dueThrow("a point in a collection", () -> judge.point(0, 0), STATE);
        judge.open(1);
        Check.due("the point of a second POINT", judge.point(3, 4), 2);
        judge.close();
        judge.open(2);
        Check.due("a point of a LINESTRING", judge.point(0, 0), 3);
        Check.due("the same point again", judge.point(0, 0), 4);
        judge.close();
        judge.open(3);
        Check.dueThrow("a point without a ring", () -> judge.point(0, 0), STATE);
        judge.ring();
        Check.due("a point of a ring", judge.point(0, 0), 5);
        judge.ring();
        Check.due("a point of the next ring", judge.point(0, 0), 6);
        judge.close();
        judge.open(3);
        Check.dueThrow("a point without a ring, behind rings", () -> judge.point(0, 0), STATE);
        judge.close();
        for (int kind = 4; kind <= 7; kind++) {
            judge.open(kind);
            Check.dueThrow("a point in a " + kind, () -> judge.point(0, 0), STATE);
            judge.close();
        }
        judge.close();
        Check.dueThrow("a point for a whole shape", () -> judge.point(0, 0), STATE);
    }

    private static void pointRange() {
        int far = 1000000000;
        ShapeJudge judge = opened(2);
        Check.due("the farthest point", judge.point(far, far), 1);
        Check.due("the farthest point", judge.point(-far, -far), 2);
        for (int bad : new int[] {far + 1, -far - 1, Integer.MAX_VALUE, Integer.MIN_VALUE}) {
            Check.dueThrow("point(" + bad + ", 0)", () -> judge.point(bad, 0), ARGUMENT);
            Check.dueThrow("point(0, " + bad + ")", () -> judge.point(0, bad), ARGUMENT);
        }
        Check.due("refused points are not counted", judge.point(0, 0), 3);
    }

    private static void pointLimit() {
        ShapeJudge judge = opened(7, 2);
        for (int points = 1; points <= 4096; points++) {
            Check.due("point " + points, judge.point(points, 0), points);
        }
        Check.dueThrow("one point more", () -> judge.point(0, 0), UNSUPPORTED);
        Check.dueThrow("one bad point more", () -> judge.point(2000000000, 0), ARGUMENT);
        judge.close();
        Check.dueThrow("one point more, but nowhere", () -> judge.point(0, 0), STATE);
        judge.open(1);
        Check.dueThrow("one point more in a POINT", () -> judge.point(0, 0), UNSUPPORTED);
        judge.close();
        judge.close();
        Check.due("judge() of 4096 points", judge.judge(), 0);
    }

    private static void close() {
        ShapeJudge judge = opened(7, 6, 3);
        Check.due("close()", judge.close(), 2);
        Check.due("close()", judge.close(), 1);
        Check.dueThrow("judge() while one is open", () -> judge.judge(), STATE);
        Check.due("close()", judge.close(), 0);
        Check.dueThrow("close() of a whole one", () -> judge.close(), STATE);
        Check.due("judge()", judge.judge(), 0);
    }

    private static void orderOfExceptions() {
        ShapeJudge judge = opened(3);
        Check.dueThrow("no kind before no place", () -> judge.open(0), ARGUMENT);
        Check.dueThrow("no coordinate before no place", () -> judge.point(0, 1000000001), ARGUMENT);
        judge.close();
        Check.dueThrow("no kind before a whole one", () -> judge.open(9), ARGUMENT);
        Check.due("nothing changed", judge.clear(), 2);
    }
}
