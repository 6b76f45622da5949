import java.util.ArrayList;
import java.util.List;
import java.util.concurrent.Callable;

/**
 * All promises: runs of 512 calls in any order, with any arguments, answered as NaiveJudge does;
 * so nothing but what the document names is ever thrown.
 */
final class CallsTest {
    private static final int RUNS = 1500;
    private static final int CALLS = 512;
    private static final int[] ODD = {0, 1, -1, 7, 8, 1000000000, -1000000000, 1000000001,
        -1000000001, Integer.MAX_VALUE, Integer.MIN_VALUE};

    private final ShapeMaker chance;
    private final ShapeJudge judge = new ShapeJudge();
    private final NaiveJudge naive = new NaiveJudge();
    private final List<String> calls = new ArrayList<>();
    private final int closing;

    private CallsTest(int seed) {
        chance = new ShapeMaker(seed);
        closing = chance.between(1, 20);
    }

    public static void main(String[] args) {
        for (int run = 0; run < RUNS && Check.isAllRight(); run++) {
            CallsTest test = new CallsTest(run);
            for (int call = 0; call < CALLS && Check.isAllRight(); call++) {
                test.oneCall();
            }
            if (!Check.isAllRight()) {
                System.out.println("run " + run + ": " + test.calls);
            }
        }
        Check.end();
    }

    private void oneCall() {
        int choice = chance.below(100);
        if (choice < 2) {
            due("clear()", () -> judge.clear(), () -> naive.clear());
        } else if (choice < 20) {
            int kind = chance.below(20) == 0 ? odd() : chance.between(1, 7);
            due("open(" + kind + ")", () -> judge.open(kind), () -> naive.open(kind));
        } else if (choice < 30) {
            due("ring()", () -> ring(judge), () -> ring(naive));
        } else if (choice < 65) {
            somePoints();
        } else if (choice < 65 + closing) {
            due("close()", () -> judge.close(), () -> naive.close());
        } else if (choice < 90) {
            due("judge()", () -> judge.judge(), () -> naive.judge());
        } else {
            int what = chance.below(10) == 0 ? odd() : chance.below(7);
            due("place(" + what + ")", () -> judge.place(what), () -> naive.place(what));
        }
    }

    private void somePoints() {
        int x = chance.below(6);
        int y = chance.below(6);
        if (chance.below(20) == 0) {
            // Far points stay out of shapes: NaiveJudge is not exact there.
            int far = 1000000001 + chance.below(1000000000);
            due("point(" + far + ", y)", () -> judge.point(far, y), () -> naive.point(far, y));
            due("point(x, " + -far + ")", () -> judge.point(x, -far), () -> naive.point(x, -far));
        }
        due("point(" + x + ", " + y + ")", () -> judge.point(x, y), () -> naive.point(x, y));
        if (chance.below(3) == 0) {
            int x2 = chance.below(6);
            due("point(" + x2 + ", " + y + ")", () -> judge.point(x2, y), () -> naive.point(x2, y));
            due("point(" + x2 + ", " + x + ")", () -> judge.point(x2, x), () -> naive.point(x2, x));
            due("point(" + x + ", " + y + ")", () -> judge.point(x, y), () -> naive.point(x, y));
        }
    }

    private int odd() {
        return ODD[chance.below(ODD.length)];
    }

    private static String ring(ShapeJudge judge) {
        judge.ring();
        return "nothing";
    }

    private static String ring(NaiveJudge judge) {
        judge.ring();
        return "nothing";
    }

    private void due(String call, Callable<?> got, Callable<?> want) {
        calls.add(call);
        Check.due(call, Check.answer(got), Check.answer(want));
    }
}
