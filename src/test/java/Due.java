/** Counts and prints the answers that are not the ones that are due. */
final class Due {
    private static final int MOST_PRINTED = 50;

    private static int asked = 0;
    private static int wrong = 0;

    private Due() {
    }

    static void same(String call, long got, long want) {
        asked++;
        if (got != want) {
            wrong++;
            if (wrong <= MOST_PRINTED) {
                System.out.println(call + " answered " + got + ", due is " + want);
            }
        }
    }

    static void yes(String call, boolean got) {
        same(call, got ? 1 : 0, 1);
    }

    static void no(String call, boolean got) {
        same(call, got ? 1 : 0, 0);
    }

    static boolean anyWrong() {
        return wrong > 0;
    }

    /** To be called last: a wrong answer ends the program with exit code 1. */
    static void end(String test) {
        System.out.println(test + ": " + asked + " answers, " + wrong + " not as due");
        if (wrong > 0) {
            System.exit(1);
        }
    }
}
