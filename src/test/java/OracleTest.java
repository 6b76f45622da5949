import java.util.Arrays;
import java.util.List;

/**
 * Promises 7 and 8: many shapes, judged as NaiveJudge does; and the same shapes put far out, where
 * every answer must stay as it was, since no such map turns left into right.
 */
final class OracleTest {
    private static final int SHAPES = 120000;

    private OracleTest() {
    }

    public static void main(String[] args) {
        int[] seen = new int[12];
        ShapeJudge near = new ShapeJudge();
        ShapeJudge far = new ShapeJudge();
        NaiveJudge naive = new NaiveJudge();
        for (int i = 0; i < SHAPES && Check.isAllRight(); i++) {
            ShapeMaker maker = new ShapeMaker(i);
            List<int[]> calls = maker.shape();
            long[] map = map(maker);
            for (int[] call : calls) {
                play(near, call, new long[] {1, 0, 0, 1, 0, 0});
                play(far, call, map);
                play(naive, call);
            }
            String want = verdict(naive);
            Check.due("shape " + i + " " + text(calls), Draw.verdict(near), want);
            Check.due("shape " + i + " far out by " + Arrays.toString(map) + " " + text(calls),
                    Draw.verdict(far), want);
            Check.due("numbers", near.clear(), naive.clear());
            far.clear();
            seen[Integer.parseInt(want.substring(0, want.indexOf(':')))]++;
        }
        System.out.println("shapes by what is wrong: " + Arrays.toString(seen));
        for (int what = 0; what < seen.length; what++) {
            Check.due("enough shapes with " + what, seen[what] >= 100, true);
        }
        Check.end();
    }

    /** A map (ax + by + e, cx + dy + f) that keeps a grid of 8 within the limits. */
    private static long[] map(ShapeMaker maker) {
        long a = maker.between(1, 124999999);
        long d = maker.between(1, 124999999);
        long b = maker.between(-124999999, 124999999);
        long c = maker.between(-124999999, 124999999);
        if (maker.below(3) == 0) {
            a = 250000000;
            d = 250000000;
            b = 0;
            c = 0;
        }
        if (a * d - b * c <= 0) {
            c = -c;
        }
        if (a * d - b * c <= 0) {
            b = 0;
        }
        return new long[] {a, b, c, d, -4 * (a + b), -4 * (c + d)};
    }

    private static void play(ShapeJudge judge, int[] call, long[] map) {
        switch (call[0]) {
            case 1 -> judge.open(call[1]);
            case 2 -> judge.ring();
            case 3 -> judge.point((int) (map[0] * call[1] + map[1] * call[2] + map[4]),
                    (int) (map[2] * call[1] + map[3] * call[2] + map[5]));
            default -> judge.close();
        }
    }

    private static void play(NaiveJudge judge, int[] call) {
        switch (call[0]) {
            case 1 -> judge.open(call[1]);
            case 2 -> judge.ring();
            case 3 -> judge.point(call[1], call[2]);
            default -> judge.close();
        }
    }

    private static String verdict(NaiveJudge judge) {
        StringBuilder told = new StringBuilder();
        told.append(judge.judge()).append(":");
        for (int what = 0; what < 7; what++) {
            told.append(" ").append(judge.place(what));
        }
        return told.toString();
    }

    private static String text(List<int[]> calls) {
        StringBuilder text = new StringBuilder();
        for (int[] call : calls) {
            text.append(Arrays.toString(call));
        }
        return text.toString();
    }
}
