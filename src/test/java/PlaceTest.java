/** Promise 8: when places are told, and which ones there are. */
final class PlaceTest {
    private static final String WRONG = "POLYGON((0 0,10 10,10 0,0 10,0 0))";

    private PlaceTest() {
    }

    public static void main(String[] args) {
        otherPlaces();
        beforeJudging();
        afterClear();
        whileBuilding();
        Check.end();
    }

    private static String places(ShapeJudge judge) {
        StringBuilder told = new StringBuilder();
        for (int what = 0; what < 7; what++) {
            told.append(judge.place(what)).append(" ");
        }
        return told.toString().trim();
    }

    private static void dueNone(String when, ShapeJudge judge) {
        Check.due(when, places(judge), "-1 -1 -1 -1 -1 -1 -1");
    }

    private static void otherPlaces() {
        ShapeJudge judge = Draw.fresh(WRONG);
        for (int what : new int[] {-1, 7, 8, Integer.MIN_VALUE, Integer.MAX_VALUE}) {
            Check.dueThrow("place(" + what + ")", () -> new ShapeJudge().place(what),
                    IndexOutOfBoundsException.class);
            Check.dueThrow("place(" + what + ") of a shape", () -> judge.place(what),
                    IndexOutOfBoundsException.class);
        }
        Check.due("judge()", judge.judge(), 4);
        Check.dueThrow("place(7) when judged", () -> judge.place(7),
                IndexOutOfBoundsException.class);
        Check.due("places after that", places(judge), "0 0 0 0 0 0 2");
    }

    private static void beforeJudging() {
        dueNone("a new object", new ShapeJudge());
        dueNone("a whole shape, not judged", Draw.fresh(WRONG));
        ShapeJudge judge = new ShapeJudge();
        judge.open(7);
        Check.dueThrow("judge() of an open shape", () -> judge.judge(),
                IllegalStateException.class);
        dueNone("a judging that was refused", judge);
    }

    private static void afterClear() {
        ShapeJudge judge = Draw.fresh(WRONG);
        judge.judge();
        judge.clear();
        dueNone("cleared", judge);
        Draw.on(judge, WRONG);
        dueNone("cleared, and a wrong shape again", judge);
        Check.due("judge()", judge.judge(), 4);
        Check.due("the wrong shape", places(judge), "0 0 0 0 0 0 2");
        judge.clear();
        Draw.on(judge, "LINESTRING(0 0,1 1)");
        Check.due("judge()", judge.judge(), 0);
        dueNone("a right shape", judge);
    }

    /** Calls that are refused leave the latest judging as it was. */
    private static void whileBuilding() {
        ShapeJudge judge = Draw.fresh(WRONG);
        judge.judge();
        Check.dueThrow("open()", () -> judge.open(3), IllegalStateException.class);
        Check.dueThrow("point()", () -> judge.point(1, 1), IllegalStateException.class);
        Check.dueThrow("close()", () -> judge.close(), IllegalStateException.class);
        Check.due("places after refused calls", places(judge), "0 0 0 0 0 0 2");
        Check.due("judge() after refused calls", judge.judge(), 4);
    }
}
