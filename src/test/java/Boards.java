/** Boards for the tests of boundaries, and what a board answers in all. */
final class Boards {
    static final int NONE = WorkBoard.NONE;

    /** Wrong wherever the document names a range (but for days to be asked), also if a number wraps around. */
    static final int[] FAR = {Integer.MIN_VALUE, Integer.MIN_VALUE + 1, Integer.MIN_VALUE + 10, -65536, -256, -2,
        256, 257, 65536, 65537, 1 << 30, Integer.MAX_VALUE - 1, Integer.MAX_VALUE};

    /** Wrong for a day that is asked for. */
    static final int[] FAR_DAYS = {Integer.MIN_VALUE, Integer.MIN_VALUE + 1, -65536, -3000, -2, -1,
        3001, 3002, 65536, 65537, 1 << 30, Integer.MAX_VALUE - 1, Integer.MAX_VALUE};

    /** A call that is to be refused. */
    interface Call {
        boolean isDone(WorkBoard board);
    }

    private Boards() {
    }

    static WorkBoard of(int columns, int limit, int lane, int hands) {
        WorkBoard b = new WorkBoard();
        b.columns(columns);
        for (int k = 0; k < columns; k++) {
            b.column(k, limit, lane, hands);
        }
        return b;
    }

    static void come(WorkBoard b, int cards, int day, boolean urgent) {
        for (int i = 0; i < cards; i++) {
            b.card(day, urgent);
        }
    }

    /** All that can be told is told, and nearly nothing is as at first. */
    static WorkBoard rich() {
        WorkBoard b = new WorkBoard();
        b.columns(3);
        b.column(0, 2, 1, 3);
        b.column(1, 3, 2, 4);
        b.column(2, 1, 1, 2);
        b.pace(2);
        int[] days = {0, 0, 1, 1, 2};
        for (int c = 0; c < days.length; c++) {
            b.card(days[c], c == 1 || c == 3);
            b.size(c, 0, 2 + c % 3);
            b.size(c, 1, 4 - c % 2);
            b.size(c, 2, 5 - c);
        }
        b.waits(4, 0);
        b.waits(3, 1);
        b.back(0, 2, 1);
        b.back(1, 1, 0);
        b.other(0, 0, 1);
        b.other(1, 1, 1);
        b.other(2, 2, 5);
        b.other(3, 0, 3);
        return b;
    }

    /** What is told of the board, its cards in both runs, and the figures: some 100 calls for five cards. */
    static int[] answers(WorkBoard b) {
        int cards = b.about(1);
        int[] all = new int[21 + 12 * cards];
        int n = 0;
        for (int what = 0; what < 4; what++) {
            all[n++] = b.about(what);
        }
        for (int what = 0; what < 6; what++) {
            all[n++] = b.length(what / 2, what % 2 == 1);
            all[n++] = b.promise(100 - what / 2 * 30, what % 2 == 1);
        }
        all[n++] = b.differ();
        all[n++] = b.cost();
        all[n++] = b.best(2);
        all[n++] = b.bestLimit(2, 0);
        all[n++] = b.bestLimit(2, 1);
        for (int c = 0; c < cards; c++) {
            for (int what = 0; what < 6; what++) {
                all[n++] = b.told(c, what, false);
                all[n++] = b.told(c, what, true);
            }
        }
        return all;
    }

    /** The call is refused, and all that the board answers stays as it was. */
    static void refused(String call, Call made) {
        WorkBoard b = rich();
        int[] ahead = answers(b);
        Due.no(call, made.isDone(b));
        Due.same(call + " changes nothing", answers(b), ahead);
    }
}
