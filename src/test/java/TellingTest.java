/** Promises 1 to 9 and 20: a new object, and what is told to it. */
public final class TellingTest {
    private static final int NONE = WorkBoard.NONE;
    private static final int[] FAR = {Integer.MIN_VALUE, -1000, -2, 1000, Integer.MAX_VALUE};

    public static void main(String[] args) {
        newObject();
        newObjectHasLimitLaneHands();
        columnsStartAnew();
        columnsRefused();
        columnChangesRules();
        columnDropsOthers();
        columnRefused();
        pace();
        card();
        size();
        waits();
        back();
        other();
        otherRefused();
        about();
        Due.end("TellingTest");
    }

    private static void newObject() {
        Due.same("1 NONE", NONE, -1);
        WorkBoard b = new WorkBoard();
        Due.same("1 about(0)", b.about(0), 1);
        Due.same("1 about(1)", b.about(1), 0);
        Due.same("1 about(2)", b.about(2), 1);
        Due.same("1 about(3)", b.about(3), 1);
        Due.same("1 length(0)", b.length(0, false), 0);
        Due.same("1 length(1)", b.length(1, false), NONE);
        Due.same("1 length(2)", b.length(2, false), 0);
        Due.same("1 at(0, 0)", b.at(0, 0, false), NONE);
        Due.same("1 reason(0, 0)", b.reason(0, 0, false), NONE);
        Due.same("1 told(0, 0)", b.told(0, 0, false), NONE);
        Due.same("1 counts(0, 0)", b.counts(0, 0, false), 0);
        Due.same("1 differ", b.differ(), NONE);
        Due.same("1 cost", b.cost(), 0);
        Due.same("1 best(1)", b.best(1), 0);
        Due.same("1 bestLimit(4, 0)", b.bestLimit(4, 0), 1);
    }

    private static void newObjectHasLimitLaneHands() {
        WorkBoard b = new WorkBoard();
        looksAtFirst("1", b, 0);
    }

    /** Limit 3, lane 1 and hands 2 show in who goes in and who is worked, if all cards come on one day. */
    private static void looksAtFirst(String promise, WorkBoard b, int k) {
        for (int i = 0; i < 4; i++) {
            b.card(0, false);
        }
        b.card(0, true);
        b.card(0, true);
        for (int c = 0; c < 6; c++) {
            for (int j = 0; j < k; j++) {
                b.size(c, j, 0);
            }
            b.size(c, k, 2);
        }
        Due.same(promise + " limit: in column", b.at(2, k, false), k);
        Due.same(promise + " limit: not in column", b.at(3, k, false), k == 0 ? 11 : k - 1);
        Due.same(promise + " lane: in column", b.at(4, k, false), k);
        Due.same(promise + " lane: not in column", b.at(5, k, false), k == 0 ? 11 : k - 1);
        Due.same(promise + " hands: worked", b.reason(4, k, false), 1);
        Due.same(promise + " hands: worked", b.reason(0, k, false), 1);
        Due.same(promise + " hands: not worked", b.reason(1, k, false), 4);
        Due.same(promise + " full", b.reason(5, k, false), 3);
    }

    private static void columnsStartAnew() {
        for (int n = 1; n <= 4; n++) {
            WorkBoard b = new WorkBoard();
            b.columns(4);
            for (int k = 0; k < 4; k++) {
                b.column(k, 20, 5, 20);
                b.other(0, k, 0);
            }
            b.pace(9);
            b.other(3, 0, 7);
            int c = b.card(0, false);
            b.size(c, 0, 9);
            b.waits(b.card(3, true), c);
            b.back(c, 3, 0);
            Due.yes("2 columns(" + n + ")", b.columns(n));
            Due.same("2 about(0)", b.about(0), n);
            Due.same("2 about(1)", b.about(1), 0);
            Due.same("2 about(2)", b.about(2), 1);
            Due.same("2 about(3)", b.about(3), 1);
            Due.same("2 length(0)", b.length(0, false), 0);
            Due.same("2 card", b.card(0, false), 0);
            Due.same("2 card", b.card(0, false), 1);
            Due.same("2 a new card is new", b.told(0, 0, false), n - 1);
            Due.same("2 a new card waits for none", b.told(1, 0, false), n - 1);
            Due.same("2 no others", b.told(0, 0, true), n - 1);
        }
        WorkBoard same = new WorkBoard();
        same.columns(2);
        same.column(1, 1, 0, 1);
        same.columns(2);
        same.column(0, 20, 5, 20);
        looksAtFirst("2", same, 1);
    }

    private static void columnsRefused() {
        WorkBoard b = new WorkBoard();
        b.columns(3);
        b.pace(4);
        b.card(5, true);
        int[] wrong = {0, 5, -1, 6};
        for (int n : wrong) {
            Due.no("2 columns(" + n + ")", b.columns(n));
        }
        for (int n : FAR) {
            Due.no("2 columns(" + n + ")", b.columns(n));
        }
        Due.same("2 refused: about(0)", b.about(0), 3);
        Due.same("2 refused: about(1)", b.about(1), 1);
        Due.same("2 refused: about(2)", b.about(2), 4);
    }

    private static void columnChangesRules() {
        WorkBoard b = new WorkBoard();
        for (int i = 0; i < 3; i++) {
            b.card(0, false);
        }
        b.card(0, true);
        Due.yes("3 limit 1", b.column(0, 1, 1, 2));
        Due.same("3 limit 1 at", b.at(0, 0, false), 10);
        Due.same("3 limit 1 at", b.at(1, 0, false), 11);
        Due.yes("3 lane 0", b.column(0, 20, 0, 20));
        Due.same("3 lane 0 at", b.at(3, 0, false), 11);
        Due.same("3 lane 0 jam", b.length(1, false), 1);
        Due.yes("3 hands 0", b.column(0, 20, 5, 0));
        Due.same("3 hands 0 at", b.at(0, 50, false), 0);
        Due.same("3 hands 0 reason", b.reason(0, 0, false), 4);
        Due.yes("3 limit 0", b.column(0, 0, 5, 20));
        Due.same("3 limit 0 at", b.at(0, 0, false), 11);
        Due.same("3 limit 0 at", b.at(3, 0, false), 10);
    }

    private static void columnDropsOthers() {
        WorkBoard b = new WorkBoard();
        b.columns(2);
        b.card(0, false);
        b.other(0, 0, 0);
        b.other(1, 0, 0);
        b.other(2, 0, 0);
        b.other(0, 1, 0);
        b.other(3, 0, 5);
        Due.same("3 others stand", b.at(0, 9, true), 11);
        Due.no("3 refused", b.column(0, 21, 1, 2));
        Due.same("3 refused: others stand", b.at(0, 9, true), 11);
        Due.yes("3 column", b.column(0, 3, 1, 2));
        Due.same("3 others of it are gone, those of the next stand", b.at(0, 9, true), 0);
        Due.same("3 the other pace stands", b.about(3), 5);
        Due.yes("3 column", b.column(1, 3, 1, 2));
        Due.same("3 others are gone", b.at(0, 9, true), 10);
    }

    private static void columnRefused() {
        WorkBoard b = new WorkBoard();
        b.columns(2);
        b.card(0, false);
        b.card(0, false);
        Due.no("3 k -1", b.column(-1, 0, 0, 0));
        Due.no("3 k 2", b.column(2, 0, 0, 0));
        Due.no("3 limit -1", b.column(0, -1, 0, 0));
        Due.no("3 limit 21", b.column(0, 21, 0, 0));
        Due.no("3 lane -1", b.column(0, 0, -1, 0));
        Due.no("3 lane 6", b.column(0, 0, 6, 0));
        Due.no("3 hands -1", b.column(0, 0, 0, -1));
        Due.no("3 hands 21", b.column(0, 0, 0, 21));
        for (int v : FAR) {
            Due.no("3 k " + v, b.column(v, 0, 0, 0));
            Due.no("3 limit " + v, b.column(0, v, 0, 0));
            Due.no("3 lane " + v, b.column(0, 0, v, 0));
            Due.no("3 hands " + v, b.column(0, 0, 0, v));
        }
        Due.same("3 nothing changed", b.length(2, false), 4);
    }

    private static void pace() {
        WorkBoard b = new WorkBoard();
        b.card(0, false);
        b.size(0, 0, 9);
        b.column(0, 1, 0, 20);
        int[] doneOn = {8, 4, 2, 2, 1, 1, 1, 1, 0};
        for (int v = 1; v <= 9; v++) {
            Due.yes("4 pace(" + v + ")", b.pace(v));
            Due.same("4 about(2)", b.about(2), v);
            Due.same("4 DONE at pace " + v, b.told(0, 0, false), doneOn[v - 1]);
        }
        b.pace(3);
        Due.no("4 pace(0)", b.pace(0));
        Due.no("4 pace(10)", b.pace(10));
        Due.no("4 pace(-1)", b.pace(-1));
        for (int v : FAR) {
            Due.no("4 pace(" + v + ")", b.pace(v));
        }
        Due.same("4 refused", b.about(2), 3);
        b.other(3, 0, 2);
        b.pace(9);
        Due.same("4 the other pace stands", b.about(3), 2);
    }

    private static void card() {
        WorkBoard b = new WorkBoard();
        int[] wrong = {-1, 100};
        for (int day : wrong) {
            Due.same("5 card(" + day + ")", b.card(day, false), NONE);
        }
        for (int day : FAR) {
            Due.same("5 card(" + day + ")", b.card(day, true), NONE);
        }
        Due.same("5 about(1)", b.about(1), 0);
        for (int c = 0; c < 16; c++) {
            Due.same("5 card", b.card(c == 0 ? 99 : 0, c % 2 == 0), c);
        }
        Due.same("5 a card too many", b.card(0, false), NONE);
        Due.same("5 about(1)", b.about(1), 16);
        Due.same("5 its day", b.at(0, 98, false), NONE);
        Due.same("5 its day", b.told(0, 0, false), 99);
    }

    private static void size() {
        WorkBoard b = new WorkBoard();
        b.columns(2);
        b.card(0, false);
        b.card(0, false);
        Due.same("6 at first 1", b.told(0, 0, false), 1);
        Due.yes("6 size(0, 0, 9)", b.size(0, 0, 9));
        Due.same("6 9 days in column 0", b.told(0, 0, false), 9);
        Due.yes("6 size(0, 1, 3)", b.size(0, 1, 3));
        Due.same("6 and 3 in column 1", b.told(0, 0, false), 11);
        Due.yes("6 size(0, 0, 0)", b.size(0, 0, 0));
        Due.same("6 one day even for none", b.told(0, 0, false), 3);
        Due.same("6 of the one card alone", b.told(1, 0, false), 1);
        Due.no("6 c -1", b.size(-1, 0, 5));
        Due.no("6 c 2", b.size(2, 0, 5));
        Due.no("6 k -1", b.size(0, -1, 5));
        Due.no("6 k 2", b.size(0, 2, 5));
        Due.no("6 v -1", b.size(0, 0, -1));
        Due.no("6 v 10", b.size(0, 0, 10));
        for (int v : FAR) {
            Due.no("6 c " + v, b.size(v, 0, 5));
            Due.no("6 k " + v, b.size(0, v, 5));
            Due.no("6 v " + v, b.size(0, 0, v));
        }
        Due.same("6 refused", b.told(0, 0, false), 3);
    }

    private static void waits() {
        WorkBoard b = new WorkBoard();
        b.column(0, 20, 5, 20);
        for (int i = 0; i < 3; i++) {
            b.card(0, false);
        }
        Due.yes("7 waits(2, 1)", b.waits(2, 1));
        Due.yes("7 waits(1, 0)", b.waits(1, 0));
        Due.same("7 DONE", b.told(0, 0, false), 0);
        Due.same("7 DONE", b.told(1, 0, false), 1);
        Due.same("7 DONE", b.told(2, 0, false), 2);
        Due.no("7 itself", b.waits(1, 1));
        Due.no("7 a later one", b.waits(1, 2));
        Due.no("7 one that there isn't", b.waits(1, 3));
        Due.no("7 c -1", b.waits(-1, NONE));
        Due.no("7 c 3", b.waits(3, 0));
        Due.no("7 other -2", b.waits(2, -2));
        for (int v : FAR) {
            Due.no("7 c " + v, b.waits(v, 0));
            Due.no("7 other " + v, b.waits(2, v));
        }
        Due.same("7 refused", b.told(2, 0, false), 2);
        Due.yes("7 none", b.waits(2, NONE));
        Due.same("7 DONE", b.told(2, 0, false), 0);
        Due.yes("7 none of the first", b.waits(0, NONE));
    }

    private static void back() {
        WorkBoard b = new WorkBoard();
        b.columns(4);
        b.card(0, false);
        b.card(0, false);
        Due.same("8 no BACK", b.told(0, 0, false), 3);
        Due.yes("8 back(0, 3, 0)", b.back(0, 3, 0));
        Due.same("8 all once more", b.told(0, 0, false), 7);
        Due.same("8 back at the first one", b.at(0, 4, false), 0);
        Due.yes("8 back(0, 2, 1)", b.back(0, 2, 1));
        Due.same("8 two once more", b.told(0, 0, false), 5);
        Due.same("8 back at 1", b.at(0, 3, false), 1);
        Due.same("8 of the one card alone", b.told(1, 0, false), 3);
        Due.no("8 r 0", b.back(0, 0, 0));
        Due.no("8 q = r", b.back(0, 3, 3));
        Due.no("8 q above r", b.back(0, 2, 3));
        Due.no("8 q -1", b.back(0, 2, -1));
        Due.no("8 r 4", b.back(0, 4, 1));
        Due.no("8 r -2", b.back(0, -2, -3));
        Due.no("8 c -1", b.back(-1, 1, 0));
        Due.no("8 c 2", b.back(2, NONE, 0));
        for (int v : FAR) {
            Due.no("8 c " + v, b.back(v, NONE, NONE));
            Due.no("8 r " + v, b.back(0, v, 0));
            Due.no("8 q " + v, b.back(0, 3, v));
        }
        Due.same("8 refused", b.told(0, 0, false), 5);
        Due.yes("8 none, whatever q", b.back(0, NONE, Integer.MAX_VALUE));
        Due.same("8 none", b.told(0, 0, false), 3);
        Due.yes("8 none, whatever q", b.back(1, NONE, Integer.MIN_VALUE));
    }

    private static void other() {
        WorkBoard b = new WorkBoard();
        b.columns(2);
        for (int i = 0; i < 3; i++) {
            b.card(0, false);
        }
        b.card(0, true);
        Due.same("9 as the run", b.length(2, true), b.length(2, false));
        Due.yes("9 limit", b.other(0, 0, 1));
        Due.same("9 limit", b.at(1, 0, true), 11);
        Due.same("9 limit of the run", b.at(1, 0, false), 0);
        Due.yes("9 as the run's", b.other(0, 0, NONE));
        Due.same("9 as the run's", b.at(1, 0, true), 0);
        Due.yes("9 lane", b.other(1, 0, 0));
        Due.same("9 lane", b.at(3, 0, true), 11);
        Due.yes("9 as the run's", b.other(1, 0, NONE));
        Due.same("9 as the run's", b.at(3, 0, true), 0);
        Due.yes("9 hands", b.other(2, 1, 0));
        Due.same("9 hands", b.at(0, 99, true), 1);
        Due.same("9 hands of the run", b.at(0, 99, false), 10);
        Due.yes("9 as the run's", b.other(2, 1, NONE));
        Due.same("9 as the run's", b.at(0, 99, true), 10);
        Due.yes("9 pace, whatever k", b.other(3, Integer.MIN_VALUE, 9));
        Due.same("9 pace", b.about(3), 9);
        b.size(3, 0, 2);
        Due.same("9 pace of the run", b.at(3, 1, false), 0);
        Due.same("9 other pace", b.at(3, 1, true), 10);
        Due.yes("9 as the run's", b.other(3, 0, NONE));
        Due.same("9 as the run's", b.about(3), 1);
        b.pace(4);
        Due.same("9 as the run's", b.about(3), 4);
        b.other(0, 0, 0);
        Due.same("9 limit 0 is told", b.at(0, 0, true), 11);
    }

    private static void otherRefused() {
        WorkBoard b = new WorkBoard();
        b.columns(2);
        b.card(0, false);
        int[] most = {20, 5, 20, 9};
        for (int what = 0; what < 4; what++) {
            int least = what == 3 ? 1 : 0;
            Due.yes("9 the most of " + what, b.other(what, 1, most[what]));
            Due.no("9 more than the most of " + what, b.other(what, 1, most[what] + 1));
            Due.yes("9 the least of " + what, b.other(what, 1, least));
            Due.no("9 less than the least of " + what, b.other(what, 1, what == 3 ? 0 : -2));
            Due.no("9 -2 of " + what, b.other(what, 1, -2));
            for (int v : FAR) {
                Due.no("9 " + v + " of " + what, b.other(what, 1, v));
                Due.same("9 column " + v, b.other(what, v, 1) ? 1 : 0, what == 3 ? 1 : 0);
            }
            Due.yes("9 NONE of " + what, b.other(what, 1, NONE));
        }
        for (int what = 0; what < 3; what++) {
            Due.no("9 column -1", b.other(what, -1, NONE));
            Due.no("9 column 2", b.other(what, 2, 1));
        }
        Due.no("9 what 4", b.other(4, 0, 1));
        Due.no("9 what -1", b.other(-1, 0, 1));
        for (int v : FAR) {
            Due.no("9 what " + v, b.other(v, 0, 1));
        }
        Due.same("9 nothing told", b.differ(), NONE);
    }

    private static void about() {
        WorkBoard b = new WorkBoard();
        b.columns(3);
        b.pace(2);
        b.card(1, false);
        b.card(1, false);
        Due.same("20 about(0)", b.about(0), 3);
        Due.same("20 about(1)", b.about(1), 2);
        Due.same("20 about(2)", b.about(2), 2);
        Due.same("20 about(3)", b.about(3), 2);
        b.other(3, 0, 6);
        Due.same("20 about(2)", b.about(2), 2);
        Due.same("20 about(3)", b.about(3), 6);
        Due.same("20 about(4)", b.about(4), NONE);
        Due.same("20 about(-1)", b.about(-1), NONE);
        for (int v : FAR) {
            Due.same("20 about(" + v + ")", b.about(v), NONE);
        }
    }
}
