import java.util.function.Consumer;

/** Calls on objects, and what they answer, for tests that tell more than single answers. */
final class Calls {
    static final Class<IllegalArgumentException> ARGUMENT = IllegalArgumentException.class;
    static final Class<IllegalStateException> STATE = IllegalStateException.class;
    static final Class<IndexOutOfBoundsException> INDEX = IndexOutOfBoundsException.class;
    static final Class<UnsupportedOperationException> UNSUPPORTED =
            UnsupportedOperationException.class;
    static final String NO_PLACES = "-1 -1 -1 -1 -1 -1 -1";

    private Calls() {
    }

    static ShapeJudge made(Consumer<ShapeJudge> calls) {
        ShapeJudge judge = new ShapeJudge();
        calls.accept(judge);
        return judge;
    }

    static ShapeJudge opened(int... kinds) {
        return made(judge -> open(judge, kinds));
    }

    static void open(ShapeJudge judge, int... kinds) {
        for (int kind : kinds) {
            judge.open(kind);
        }
    }

    static void repeat(int times, Runnable calls) {
        for (int i = 0; i < times; i++) {
            calls.run();
        }
    }

    /** A shape that is whole and has nothing in it. */
    static void empty(ShapeJudge judge, int kind) {
        judge.open(kind);
        judge.close();
    }

    static String ring(ShapeJudge judge) {
        return Check.answer(() -> {
            judge.ring();
            return "nothing";
        });
    }

    static String places(ShapeJudge judge) {
        StringBuilder told = new StringBuilder();
        for (int what = 0; what < 7; what++) {
            told.append(judge.place(what)).append(" ");
        }
        return told.toString().trim();
    }

    /** A call is refused by an exception, and all later answers are as if it had not been made. */
    static void dueRefused(String what, Consumer<ShapeJudge> before, Consumer<ShapeJudge> call,
            Class<? extends Exception> want) {
        ShapeJudge judge = made(before);
        Check.dueThrow(what, () -> {
            call.accept(judge);
            return "no exception";
        }, want);
        Check.due(what + ", and later answers", later(judge), later(made(before)));
    }

    /** What an object answers from here on, by calls that look at all that it holds. */
    private static String later(ShapeJudge judge) {
        StringBuilder told = new StringBuilder(places(judge));
        told.append(" judge ").append(Check.answer(() -> judge.judge()));
        told.append(" point ").append(Check.answer(() -> judge.point(31, 32)));
        told.append(" ring ").append(ring(judge));
        told.append(" point ").append(Check.answer(() -> judge.point(33, 32)));
        for (int kind = 1; kind <= 7; kind++) {
            int part = kind;
            told.append(" open ").append(Check.answer(() -> judge.open(part)));
        }
        for (int i = 0; i < 52; i++) {
            told.append(" close ").append(Check.answer(() -> judge.close()));
        }
        told.append(" judge ").append(Check.answer(() -> judge.judge()));
        told.append(" places ").append(places(judge));
        return told.append(" clear ").append(judge.clear()).toString();
    }
}
