import java.lang.management.ManagementFactory;

/**
 * The room: the dearest runs of 512 calls that come to mind make far fewer things than the 7.3
 * million fields and elements that all calls of a run may make.
 */
final class RoomTest {
    private static final int CALLS = 512;
    private static final long BYTES = 1000000;

    private RoomTest() {
    }

    public static void main(String[] args) {
        run("one ring", RoomTest::oneRing);
        run("holes that meet at one point", RoomTest::holesAtOnePoint);
        run("small polygons", RoomTest::smallPolygons);
        run("a judging for every fourth call", RoomTest::manyJudgings);
        run("one judging after another", RoomTest::judgeAgain);
        Check.end();
    }

    private static void run(String name, Runnable calls) {
        calls.run();
        com.sun.management.ThreadMXBean bean =
                (com.sun.management.ThreadMXBean) ManagementFactory.getThreadMXBean();
        long id = Thread.currentThread().getId();
        long before = bean.getThreadAllocatedBytes(id);
        calls.run();
        long used = bean.getThreadAllocatedBytes(id) - before;
        System.out.println(name + ": " + used + " bytes");
        Check.due(name + " stays below " + BYTES, used < BYTES, true);
    }

    private static void oneRing() {
        ShapeJudge judge = new ShapeJudge();
        judge.open(3);
        judge.ring();
        for (int i = 0; i < CALLS - 6; i++) {
            judge.point(i, i * i);
        }
        judge.point(0, 0);
        judge.close();
        Check.due("one ring", judge.judge(), 0);
    }

    private static void holesAtOnePoint() {
        ShapeJudge judge = new ShapeJudge();
        judge.open(3);
        judge.ring();
        judge.point(0, 0);
        judge.point(100000, 0);
        judge.point(100000, 100000);
        judge.point(0, 0);
        for (int i = 1; i < 98; i++) {
            judge.ring();
            judge.point(0, 0);
            judge.point(1000, 6 * i);
            judge.point(1000, 6 * i + 3);
            judge.point(0, 0);
        }
        judge.close();
        Check.due("holes that meet at one point", judge.judge(), 0);
    }

    private static void smallPolygons() {
        ShapeJudge judge = new ShapeJudge();
        judge.open(6);
        for (int i = 0; i < 72; i++) {
            judge.open(3);
            judge.ring();
            judge.point(10 * i, 0);
            judge.point(10 * i + 10, 0);
            judge.point(10 * i + 5, 10);
            judge.point(10 * i, 0);
            judge.close();
        }
        judge.close();
        Check.due("small polygons", judge.judge(), 0);
    }

    private static void manyJudgings() {
        ShapeJudge judge = new ShapeJudge();
        for (int i = 0; i < CALLS / 4; i++) {
            judge.open(6);
            judge.close();
            judge.judge();
            judge.clear();
        }
        Check.due("a judging for every fourth call", judge.clear(), 0);
    }

    private static void judgeAgain() {
        ShapeJudge judge = new ShapeJudge();
        judge.open(3);
        for (int i = 0; i < 50; i++) {
            judge.ring();
            judge.point(10 * i, 0);
            judge.point(10 * i + 9, 0);
            judge.point(10 * i + 5, 9);
            judge.point(10 * i, 0);
        }
        judge.close();
        for (int i = 0; i < 260; i++) {
            Check.due("one judging after another", judge.judge(), 6);
        }
    }
}
