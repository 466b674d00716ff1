/** Counts and prints the answers that are not the ones that are due. */
final class Due {
    private static final int MOST_PRINTED = 50;

    private static int asked = 0;
    private static int wrong = 0;
    private static int sentences = 0;
    private static String sentence = "";

    private Due() {
    }

    /** What follows is the test of these words of the document, that stand where the first text says. */
    static void sentence(String where, String words) {
        sentences++;
        sentence = where + " \"" + words + "\": ";
    }

    static void same(String call, long got, long want) {
        asked++;
        if (got != want) {
            wrong++;
            if (wrong <= MOST_PRINTED) {
                System.out.println(sentence + call + " answered " + got + ", due is " + want);
            }
        }
    }

    static void yes(String call, boolean got) {
        same(call, got ? 1 : 0, 1);
    }

    static void no(String call, boolean got) {
        same(call, got ? 1 : 0, 0);
    }

    /** Row by row: the first difference is enough to be printed. */
    static void same(String call, int[] got, int[] want) {
        int i = 0;
        while (i < got.length && i < want.length && got[i] == want[i]) {
            i++;
        }
        if (i < got.length && i < want.length) {
            same(call + ", answer " + i, got[i], want[i]);
        } else {
            same(call + ", answers", got.length, want.length);
        }
    }

    static boolean anyWrong() {
        return wrong > 0;
    }

    /** To be called last: a wrong answer ends the program with exit code 1. */
    static void end(String test) {
        String told = sentences == 0 ? "" : sentences + " sentences, ";
        System.out.println(test + ": " + told + asked + " answers, " + wrong + " not as due");
        if (wrong > 0) {
            System.exit(1);
        }
    }
}
