/** Promises 15 to 19: differ, promise, best limits and cost. */
public final class FiguresTest {
    private static final int NONE = WorkBoard.NONE;
    private static final int NO_COST = -100000;
    private static final int[] FAR = {Integer.MIN_VALUE, -1000, -2, -1, 0, 101, Integer.MAX_VALUE};

    public static void main(String[] args) {
        differByPlace();
        differByWorkLeft();
        differLate();
        differNever();
        differAfterOtherQuestions();
        promise();
        promiseOfThoseDone();
        promiseRefused();
        best();
        bestIsTheFirstOne();
        bestLeavesOutJams();
        bestKeepsTheRest();
        bestRefused();
        cost();
        costOfTheSameCards();
        costWhereNotAllAreDone();
        Due.end("FiguresTest");
    }

    private static void differByPlace() {
        WorkBoard b = new WorkBoard();
        b.columns(2);
        b.card(3, false);
        b.card(3, false);
        Due.same("15 never", b.differ(), NONE);
        b.other(0, 1, 1);
        Due.same("15 elsewhere", b.differ(), 4);
        b.other(0, 0, 1);
        Due.same("15 elsewhere", b.differ(), 3);
        b.other(0, 1, NONE);
        b.other(0, 0, NONE);
        Due.same("15 never", b.differ(), NONE);
    }

    private static void differByWorkLeft() {
        WorkBoard b = new WorkBoard();
        b.card(5, false);
        b.size(0, 0, 5);
        b.other(3, 0, 2);
        Due.same("15 other work left", b.differ(), 5);
        b.other(3, 0, 1);
        b.other(2, 0, 1);
        Due.same("15 a hand more doesn't count", b.differ(), NONE);
        b.card(7, true);
        Due.same("15 until another comes", b.differ(), 7);
    }

    private static void differLate() {
        WorkBoard b = new WorkBoard();
        b.column(0, 1, 0, 1);
        b.card(0, false);
        b.card(99, true);
        b.other(1, 0, 1);
        Due.same("15 on the last day of coming", b.differ(), 99);
        WorkBoard c = new WorkBoard();
        c.columns(2);
        c.card(0, false);
        c.size(0, 0, 9);
        c.other(2, 1, 0);
        Due.same("15 as the last column is not worked", c.differ(), 9);
    }

    private static void differNever() {
        WorkBoard b = new WorkBoard();
        b.other(0, 0, 0);
        Due.same("15 without cards", b.differ(), NONE);
        b.column(0, 0, 0, 2);
        b.card(0, false);
        b.other(2, 0, 0);
        Due.same("15 nobody is worked in either", b.differ(), NONE);
        Due.same("15 and the runs tell as before", b.length(1, true), 0);
    }

    private static void differAfterOtherQuestions() {
        WorkBoard b = new WorkBoard();
        b.card(2, false);
        b.size(0, 0, 3);
        b.other(3, 0, 2);
        b.length(0, false);
        b.length(0, true);
        Due.same("15 after the runs were asked to their ends", b.differ(), 2);
        Due.same("15 again", b.differ(), 2);
        b.at(0, 50, true);
        b.at(0, 3, false);
        Due.same("15 and again", b.differ(), 2);
        Due.same("14 the run goes on to its end", b.length(0, false), 5);
        Due.same("14 the other one, too", b.length(0, true), 4);
    }

    private static void promise() {
        WorkBoard b = new WorkBoard();
        b.column(0, 1, 0, 1);
        for (int i = 0; i < 3; i++) {
            b.card(0, false);
        }
        Due.same("16 AGES 1, 2, 3: 1", b.promise(1, false), 1);
        Due.same("16 33", b.promise(33, false), 1);
        Due.same("16 34", b.promise(34, false), 2);
        Due.same("16 66", b.promise(66, false), 2);
        Due.same("16 67", b.promise(67, false), 3);
        Due.same("16 100", b.promise(100, false), 3);
        b.other(2, 0, 2);
        b.other(0, 0, 3);
        Due.same("16 other: AGES 1, 1, 2", b.promise(66, true), 1);
        Due.same("16 other", b.promise(67, true), 2);
    }

    private static void promiseOfThoseDone() {
        WorkBoard b = new WorkBoard();
        b.column(0, 1, 0, 1);
        b.card(0, false);
        b.card(0, true);
        b.card(0, true);
        b.card(0, false);
        Due.same("16 of those that are DONE", b.promise(50, false), 1);
        Due.same("16 of those that are DONE", b.promise(51, false), 2);
        b.column(0, 0, 0, 1);
        Due.same("16 none is DONE", b.promise(50, false), NONE);
        b.other(1, 0, 5);
        Due.same("16 two are DONE in the other", b.promise(100, true), 2);
    }

    private static void promiseRefused() {
        WorkBoard b = new WorkBoard();
        Due.same("16 no CARDS", b.promise(50, false), NONE);
        b.card(0, false);
        Due.same("16 a CARD", b.promise(50, false), 1);
        for (int share : FAR) {
            Due.same("16 share " + share, b.promise(share, false), NONE);
            Due.same("16 share " + share, b.promise(share, true), NONE);
        }
    }

    private static void best() {
        WorkBoard b = new WorkBoard();
        b.column(0, 20, 0, 4);
        for (int i = 0; i < 4; i++) {
            b.card(0, false);
        }
        Due.same("17 AGES 1, 2, 3, 4", b.best(1), 10);
        Due.same("17 AGES 1, 1, 2, 2", b.best(2), 6);
        Due.same("17 AGES 1, 1, 1, 2", b.best(3), 5);
        Due.same("17 AGES 1, 1, 1, 1", b.best(4), 4);
        for (int m = 1; m <= 4; m++) {
            Due.same("18 LIMIT", b.bestLimit(m, 0), m);
        }
        b.column(0, 20, 0, 2);
        Due.same("17 two hands", b.best(4), 6);
        Due.same("18 two hands", b.bestLimit(4, 0), 2);
        b.pace(2);
        b.size(0, 0, 2);
        Due.same("17 a larger one first", b.best(1), 10);
        Due.same("17 a larger one first", b.best(2), 1 + 2 + 2 + 3);
        Due.same("18 LIMIT", b.bestLimit(2, 0), 2);
        Due.same("20 what was told stands", b.about(2), 2);
    }

    private static void bestIsTheFirstOne() {
        WorkBoard b = new WorkBoard();
        b.columns(3);
        b.card(0, false);
        b.card(5, false);
        Due.same("17 all are the same", b.best(4), 6);
        for (int k = 0; k < 3; k++) {
            Due.same("18 the first by COLUMNS", b.bestLimit(4, k), 1);
        }
        WorkBoard c = new WorkBoard();
        c.columns(2);
        c.column(0, 9, 0, 20);
        c.column(1, 9, 0, 1);
        for (int i = 0; i < 3; i++) {
            c.card(0, false);
            c.size(i, 0, 2);
        }
        Due.same("17 one behind the other in column 1", c.best(2), 3 + 4 + 5);
        Due.same("18 two in column 0", c.bestLimit(2, 0), 2);
        Due.same("18 one in column 1", c.bestLimit(2, 1), 1);
        c.size(0, 0, 1);
        c.size(1, 0, 1);
        c.size(2, 0, 1);
        Due.same("17 column 1 holds all up", c.best(4), 2 + 3 + 4);
        Due.same("18 so one is enough", c.bestLimit(4, 0), 1);
        Due.same("18 so one is enough", c.bestLimit(4, 1), 1);
    }

    private static void bestLeavesOutJams() {
        WorkBoard b = new WorkBoard();
        b.columns(2);
        b.column(0, 1, 0, 5);
        b.column(1, 1, 0, 5);
        b.card(0, false);
        b.card(0, false);
        b.back(0, 1, 0);
        Due.same("14 by its own limits it jams", b.length(1, false), 2);
        Due.same("17 as by 1, 1", b.best(1), NONE);
        Due.same("18 as by 1, 1", b.bestLimit(1, 0), NONE);
        Due.same("17 2, 2: AGES 4, 2", b.best(2), 4 + 2);
        Due.same("18 column 0", b.bestLimit(2, 0), 2);
        Due.same("18 column 1", b.bestLimit(2, 1), 2);
        b.column(0, 1, 0, 0);
        Due.same("17 without hands there is none", b.best(4), NONE);
        Due.same("18 without hands there is none", b.bestLimit(4, 1), NONE);
    }

    private static void bestKeepsTheRest() {
        WorkBoard b = new WorkBoard();
        b.column(0, 0, 1, 1);
        b.card(0, false);
        b.card(0, true);
        b.card(0, true);
        b.other(0, 0, 20);
        b.other(2, 0, 20);
        Due.same("17 lane 1, hands 1", b.best(4), 1 + 2 + 3);
        Due.same("18 one is enough", b.bestLimit(4, 0), 1);
        Due.same("14 the limit stands", b.length(2, false), NONE);
        Due.same("11 the other run stands", b.counts(0, 1, true), 2);
        b.column(0, 0, 0, 1);
        Due.same("17 no lane", b.best(4), NONE);
    }

    private static void bestRefused() {
        WorkBoard b = new WorkBoard();
        b.columns(2);
        b.card(0, false);
        Due.same("17 best(1)", b.best(1), 2);
        Due.same("17 best(5)", b.best(5), NONE);
        Due.same("18 m 5", b.bestLimit(5, 0), NONE);
        Due.same("18 k 2", b.bestLimit(1, 2), NONE);
        for (int v : FAR) {
            Due.same("17 best(" + v + ")", b.best(v), NONE);
            Due.same("18 m " + v, b.bestLimit(v, 0), NONE);
            Due.same("18 k " + v, b.bestLimit(1, v), v == 0 ? 1 : NONE);
        }
    }

    private static void cost() {
        WorkBoard b = new WorkBoard();
        Due.same("19 without CARDS", b.cost(), 0);
        b.column(0, 3, 1, 1);
        b.card(0, false);
        b.card(0, false);
        Due.same("19 nobody is urgent", b.cost(), 0);
        b.card(0, true);
        Due.same("19 a day for each", b.cost(), 2);
        b.size(2, 0, 3);
        Due.same("19 three days for each", b.cost(), 6);
        b.column(0, 1, 1, 20);
        Due.same("19 hands for all", b.cost(), 0);
    }

    /** The urgent ones take places of the others, where nobody is urgent. */
    private static void costOfTheSameCards() {
        WorkBoard b = new WorkBoard();
        b.column(0, 1, 1, 2);
        b.card(0, true);
        b.card(0, false);
        b.card(0, false);
        Due.same("19 less than nothing", b.cost(), (1 + 2) - (2 + 3));
    }

    private static void costWhereNotAllAreDone() {
        WorkBoard b = new WorkBoard();
        b.column(0, 1, 0, 1);
        b.card(0, false);
        b.card(0, true);
        Due.same("19 an urgent one isn't DONE", b.cost(), NO_COST);
        b.column(0, 0, 1, 1);
        Due.same("19 another one isn't DONE", b.cost(), NO_COST);
        WorkBoard c = new WorkBoard();
        c.column(0, 0, 1, 1);
        c.card(0, true);
        Due.same("14 DONE in the run", c.length(2, false), 1);
        Due.same("19 not DONE where nobody is urgent", c.cost(), NO_COST);
        c.column(0, 1, 1, 1);
        Due.same("19 DONE in both", c.cost(), 0);
    }
}
