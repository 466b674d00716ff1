/** All promises: many made-up boards, every answer of the class against the plain model's. */
public final class ModelTest {
    private static final int BOARDS = 1500;
    private static final int CALLS = 120;
    private static final int[] ODD = {Integer.MIN_VALUE, Integer.MIN_VALUE + 9, -100000, -2, -1, 0, 1, 4, 5, 10, 16,
        20, 21, 99, 100, 101, 3000, 3001, Integer.MAX_VALUE - 9, Integer.MAX_VALUE};

    private final Numbers numbers;
    private final WorkBoard board = new WorkBoard();
    private final PlainModel model = new PlainModel();
    private final StringBuilder calls = new StringBuilder();
    private int n = 1;
    private int lastDay;
    private int mostSize;

    /** Numbers that look thrown but are the same at each run. */
    private static final class Numbers {
        private long state;

        Numbers(long seed) {
            state = seed * 0x9E3779B97F4A7C15L + 12345;
        }

        /** From 0 to below - 1. */
        int below(int below) {
            state = state * 6364136223846793005L + 1442695040888963407L;
            return (int) ((state >>> 33) % below);
        }

        boolean oneOf(int many) {
            return below(many) == 0;
        }
    }

    private ModelTest(long seed) {
        numbers = new Numbers(seed);
    }

    public static void main(String[] args) {
        for (int i = 0; i < BOARDS && !Due.anyWrong(); i++) {
            ModelTest test = new ModelTest(i);
            test.setUp();
            for (int call = 0; call < CALLS && !Due.anyWrong(); call++) {
                test.anyCall();
            }
            if (Due.anyWrong()) {
                System.out.println("board " + i + ":\n" + test.calls);
            }
        }
        Due.end("ModelTest");
    }

    private int ordinaryOrOdd(int below) {
        return numbers.oneOf(25) ? ODD[numbers.below(ODD.length)] : numbers.below(below);
    }

    private int noneOr(int below) {
        return numbers.oneOf(3) ? -1 : ordinaryOrOdd(below);
    }

    private void same(String call, long got, long want) {
        calls.append(call).append(" = ").append(want).append('\n');
        Due.same(call, got, want);
    }

    private void same(String call, boolean got, boolean want) {
        same(call, got ? 1 : 0, want ? 1 : 0);
    }

    private void setUp() {
        lastDay = numbers.oneOf(6) ? 100 : 1 + numbers.below(8);
        mostSize = numbers.oneOf(3) ? 10 : 2 + numbers.below(3);
        columns(1 + numbers.below(4));
        for (int k = 0; k < n; k++) {
            if (!numbers.oneOf(4)) {
                column(k, numbers.oneOf(15) ? 0 : 1 + numbers.below(5), numbers.below(4),
                        numbers.oneOf(15) ? 0 : 1 + numbers.below(6));
            }
        }
        if (numbers.oneOf(2)) {
            pace(1 + numbers.below(4));
        }
        int count = numbers.oneOf(10) ? 0 : 1 + numbers.below(16);
        int urgency = 1 + numbers.below(6);
        for (int c = 0; c < count; c++) {
            card(numbers.below(lastDay), numbers.oneOf(urgency) && !numbers.oneOf(3));
            for (int k = 0; k < n; k++) {
                if (!numbers.oneOf(3)) {
                    size(c, k, numbers.below(mostSize));
                }
            }
            if (numbers.oneOf(5)) {
                waits(c, numbers.below(c + 1) - 1);
            }
            if (n > 1 && numbers.oneOf(4)) {
                int r = 1 + numbers.below(n - 1);
                back(c, r, numbers.below(r));
            }
        }
    }

    private void anyCall() {
        switch (numbers.below(40)) {
            case 0:
                change();
                break;
            case 1:
            case 2:
            case 3:
                int what = ordinaryOrOdd(4);
                int[] below = {6, 4, 6, 9};
                other(what, ordinaryOrOdd(n), noneOr(below[what & 3]));
                break;
            case 4:
                change();
                break;
            case 5:
                if (numbers.oneOf(4)) {
                    best(ordinaryOrOdd(5));
                }
                break;
            case 6:
                if (numbers.oneOf(4)) {
                    bestLimit(ordinaryOrOdd(5), ordinaryOrOdd(n));
                }
                break;
            default:
                ask();
                break;
        }
    }

    private void change() {
        switch (numbers.below(9)) {
            case 0:
                if (numbers.oneOf(4)) {
                    columns(ordinaryOrOdd(5));
                }
                break;
            case 1:
            case 2:
                column(ordinaryOrOdd(n), ordinaryOrOdd(6), ordinaryOrOdd(4), ordinaryOrOdd(6));
                break;
            case 3:
                pace(ordinaryOrOdd(10));
                break;
            case 4:
                card(ordinaryOrOdd(lastDay), numbers.oneOf(3));
                break;
            case 5:
            case 6:
                size(ordinaryOrOdd(16), ordinaryOrOdd(n), ordinaryOrOdd(mostSize));
                break;
            case 7:
                waits(ordinaryOrOdd(16), noneOr(16));
                break;
            default:
                back(ordinaryOrOdd(16), noneOr(n), ordinaryOrOdd(n));
                break;
        }
    }

    private void ask() {
        boolean other = numbers.oneOf(3);
        int c = ordinaryOrOdd(16);
        int day = numbers.oneOf(8) ? numbers.below(300) : ordinaryOrOdd(lastDay + 20);
        switch (numbers.below(8)) {
            case 0:
                int what = ordinaryOrOdd(6);
                same("told(" + c + ", " + what + ", " + other + ")", board.told(c, what, other),
                        model.told(c, what, other));
                break;
            case 1:
                same("at(" + c + ", " + day + ", " + other + ")", board.at(c, day, other), model.at(c, day, other));
                break;
            case 2:
                same("reason(" + c + ", " + day + ", " + other + ")", board.reason(c, day, other),
                        model.reason(c, day, other));
                break;
            case 3:
                int count = numbers.oneOf(2) ? ordinaryOrOdd(4) : 10 + numbers.below(n + 1);
                same("counts(" + day + ", " + count + ", " + other + ")", board.counts(day, count, other),
                        model.counts(day, count, other));
                break;
            case 4:
                int part = ordinaryOrOdd(3);
                same("length(" + part + ", " + other + ")", board.length(part, other), model.length(part, other));
                break;
            case 5:
                int share = ordinaryOrOdd(101);
                same("promise(" + share + ", " + other + ")", board.promise(share, other), model.promise(share, other));
                break;
            case 6:
                same("differ()", board.differ(), model.differ());
                break;
            default:
                int thing = ordinaryOrOdd(4);
                same("cost()", board.cost(), model.cost());
                same("about(" + thing + ")", board.about(thing), model.about(thing));
                break;
        }
    }

    private void columns(int count) {
        same("columns(" + count + ")", board.columns(count), model.columns(count));
        n = model.about(0);
    }

    private void column(int k, int limit, int lane, int hands) {
        same("column(" + k + ", " + limit + ", " + lane + ", " + hands + ")", board.column(k, limit, lane, hands),
                model.column(k, limit, lane, hands));
    }

    private void pace(int v) {
        same("pace(" + v + ")", board.pace(v), model.pace(v));
    }

    private void card(int day, boolean urgent) {
        same("card(" + day + ", " + urgent + ")", board.card(day, urgent), model.card(day, urgent));
    }

    private void size(int c, int k, int v) {
        same("size(" + c + ", " + k + ", " + v + ")", board.size(c, k, v), model.size(c, k, v));
    }

    private void waits(int c, int other) {
        same("waits(" + c + ", " + other + ")", board.waits(c, other), model.waits(c, other));
    }

    private void back(int c, int r, int q) {
        same("back(" + c + ", " + r + ", " + q + ")", board.back(c, r, q), model.back(c, r, q));
    }

    private void other(int what, int k, int v) {
        same("other(" + what + ", " + k + ", " + v + ")", board.other(what, k, v), model.other(what, k, v));
    }

    private void best(int m) {
        same("best(" + m + ")", board.best(m), model.best(m));
    }

    private void bestLimit(int m, int k) {
        same("bestLimit(" + m + ", " + k + ")", board.bestLimit(m, k), model.bestLimit(m, k));
    }
}
