import java.util.concurrent.Callable;

/** Counts the answers that are not the ones that are due, and ends the test by that. */
final class Check {
    private static String about = "";
    private static int checks = 0;
    private static int wrong = 0;

    private Check() {
    }

    /** What the next checks are about: it is printed before a wrong answer. */
    static void about(String sentence) {
        about = "[" + sentence + "] ";
    }

    static void due(String what, Object got, Object want) {
        checks++;
        if (!String.valueOf(got).equals(String.valueOf(want))) {
            wrong++;
            if (wrong <= 50) {
                System.out.println(about + what + " answered " + got + ", due is " + want);
            }
        }
    }

    static void dueThrow(String what, Callable<?> call, Class<? extends Exception> want) {
        due(what, answer(call), "throws." + want.getSimpleName());
    }

    /** What a call answers: its value, or throws. and the exception's name. */
    static String answer(Callable<?> call) {
        try {
            return String.valueOf(call.call());
        } catch (Exception e) {
            return "throws." + e.getClass().getSimpleName();
        }
    }

    static int count() {
        return checks;
    }

    static boolean isAllRight() {
        return wrong == 0;
    }

    static void end() {
        System.out.println(checks + " checks, " + wrong + " wrong");
        if (wrong != 0 || checks == 0) {
            System.exit(1);
        }
    }
}
