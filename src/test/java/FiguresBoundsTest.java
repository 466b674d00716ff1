/** Terms III, promises 15 to 19: each sentence that names a boundary case has a test of its own. */
public final class FiguresBoundsTest {
    private static final int NONE = Boards.NONE;
    private static final int NO_COST = -100000;
    private static final int[] FAR = Boards.FAR;

    public static void main(String[] args) {
        otherRunSameCards();
        otherRunWhereNoneIsTold();
        differFirstDay();
        differElsewhere();
        differWorkLeft();
        differWorkLeftAtTheEnds();
        differAtTheEndOfTheDay();
        differSomeCard();
        differLastDay();
        differBehindOneLength();
        differNever();
        differNeverWithoutCards();
        promiseOf1To100();
        promiseAtLeast();
        promiseLeastAge();
        promiseOfThoseDone();
        promiseFullBoard();
        promiseOtherRun();
        promiseRefused();
        promiseNoCardIsDone();
        bestUpTo1To4();
        bestByWhichAllAreDone();
        bestOfAllColumns();
        bestLeastSum();
        bestIsNotTheMost();
        bestFirstByColumns();
        bestFirstByColumnsOfThree();
        bestChangesNothing();
        bestFollowsWhatIsTold();
        bestOwnLimitsDontCount();
        bestWithoutCards();
        bestFullBoard();
        bestRefused();
        bestNone();
        bestLimitOfAColumn();
        bestLimitRefused();
        bestLimitNoneAsAbove();
        costOfOthers();
        costLessThanNothing();
        costZero();
        costNotDoneInTheRun();
        costNotDoneInTheOther();
        costUrgentOneNotDone();
        Due.end("FiguresBoundsTest");
    }

    private static void otherRunSameCards() {
        Due.sentence("III", "THE OTHER RUN: the same CARDS with other LIMITS, LANES, HANDS, PACE");
        WorkBoard b = Boards.of(2, 1, 0, 1);
        b.other(0, 0, 2);
        b.other(1, 0, 1);
        b.other(2, 0, 20);
        b.other(3, 0, 2);
        Boards.come(b, 2, 3, false);
        b.card(3, true);
        b.size(0, 0, 2);
        Due.same("run: DONE", b.told(0, 0, false), 5);
        Due.same("run: the second one", b.told(1, 0, false), 6);
        Due.same("run: without a lane", b.told(2, 0, false), NONE);
        Due.same("other run: DONE", b.told(0, 0, true), 4);
        Due.same("other run: LIMIT 1 in column 1", b.told(1, 0, true), 5);
        Due.same("other run: no lane in column 1", b.at(2, 9, true), 0);
        b.waits(1, 0);
        Due.same("run: WAITS", b.told(1, 0, false), 7);
        Due.same("other run: WAITS", b.told(1, 0, true), 6);
        b.back(0, 1, 0);
        Due.same("run: BACK", b.told(0, 0, false), 8);
        Due.same("other run: BACK", b.told(0, 0, true), 6);
    }

    private static void otherRunWhereNoneIsTold() {
        Due.sentence("III", "those of the run, where no other ones are told");
        WorkBoard b = Boards.of(2, 1, 1, 1);
        Boards.come(b, 3, 0, false);
        b.card(1, true);
        Due.same("none is told", b.differ(), NONE);
        b.other(0, 0, 2);
        Due.same("column 1 is the run's", b.counts(1, 11, true), 0);
        Due.same("column 0 is its own", b.at(1, 0, true), 0);
        b.column(1, 0, 0, 0);
        Due.same("column 1 goes with the run's", b.at(0, 3000, true), 0);
        Due.same("column 0 stays its own", b.counts(3000, 10, true), 3);
        Due.same("the run", b.counts(3000, 10, false), 2);
    }

    private static void differFirstDay() {
        Due.sentence("III", "DIFFER: the first DAY");
        int[] days = {0, 1, 50, 98, 99};
        for (int day : days) {
            WorkBoard b = new WorkBoard();
            b.card(day, false);
            b.other(0, 0, 0);
            Due.same("day " + day, b.differ(), day);
            Due.same("again", b.differ(), day);
        }
    }

    private static void differElsewhere() {
        Due.sentence("III", "some CARD is elsewhere");
        WorkBoard b = Boards.of(3, 1, 0, 20);
        b.card(0, false);
        b.other(0, 2, 0);
        Due.same("in column 1, not DONE", b.differ(), 2);
        b.other(0, 1, 0);
        Due.same("in column 0, not in 1", b.differ(), 1);
        b.other(0, 0, 0);
        Due.same("ahead, not in column 0", b.differ(), 0);
    }

    private static void differWorkLeft() {
        Due.sentence("III", "or has other work left");
        WorkBoard b = Boards.of(2, 1, 0, 20);
        b.card(0, false);
        b.size(0, 1, 4);
        b.other(2, 1, 0);
        Due.same("three or four are left in column 1", b.differ(), 1);
        b.other(2, 1, NONE);
        b.other(3, 0, 2);
        Due.same("three or two are left in column 1", b.differ(), 1);
        Due.same("in one place", b.at(0, 1, true), b.at(0, 1, false));
        b.size(0, 1, 1);
        Due.same("none is left in both", b.differ(), NONE);
    }

    /** Also when both runs have been asked to their ends, at which other work is left. */
    private static void differWorkLeftAtTheEnds() {
        Due.sentence("III", "DIFFER: the first DAY at whose end some CARD .. has other work left");
        WorkBoard b = Boards.of(2, 1, 0, 20);
        b.column(1, 1, 0, 0);
        b.card(3, false);
        b.size(0, 1, 4);
        b.other(2, 1, 1);
        b.other(0, 1, 1);
        b.card(3, true);
        Due.same("on the second day of the first one", b.differ(), 4);
        Due.same("JAM of the run", b.length(1, false), 5);
        Due.same("JAM of the other one", b.length(1, true), 8);
        Due.same("the same behind the jams", b.differ(), 4);
        b.other(2, 1, NONE);
        Due.same("none", b.differ(), NONE);
        b.length(1, false);
        Due.same("none behind the jams", b.differ(), NONE);
        b.other(2, 0, 0);
        b.length(1, false);
        b.length(1, true);
        Due.same("a unit in column 0", b.differ(), 3);
    }

    private static void differAtTheEndOfTheDay() {
        Due.sentence("III", "the first DAY at whose end");
        WorkBoard b = Boards.of(1, 1, 0, 2);
        Boards.come(b, 2, 0, false);
        b.other(0, 0, 2);
        Due.same("the second one is DONE on day 0", b.differ(), 0);
        b.card(0, true);
        b.card(9, true);
        b.other(0, 0, 1);
        b.other(1, 0, 1);
        Due.same("an urgent one is DONE on day 0", b.differ(), 0);
        b.column(0, 2, 0, 2);
        b.other(2, 0, 20);
        Due.same("more hands that have nothing to do", b.differ(), NONE);
    }

    private static void differSomeCard() {
        Due.sentence("III", "some CARD is elsewhere");
        for (int c = 0; c < 16; c++) {
            WorkBoard b = Boards.of(1, 20, 0, 20);
            Boards.come(b, 16, 0, false);
            b.size(c, 0, 2);
            b.other(3, 0, 2);
            Due.same("card " + c + " alone", b.differ(), 0);
        }
    }

    /** The least place of the last card of the longest run. */
    private static void differLastDay() {
        Due.sentence("III", "DIFFER: the first DAY at whose end some CARD .. has other work left");
        WorkBoard b = Boards.of(4, 1, 0, 1);
        for (int c = 0; c < 16; c++) {
            b.card(99, c == 15);
            for (int k = 0; k < 4; k++) {
                b.size(c, k, 9);
            }
            b.waits(c, c - 1);
            b.back(c, 3, 0);
        }
        b.other(1, 0, 1);
        Due.same("the last one goes in", b.differ(), 99 + 15 * 72);
    }

    private static void differBehindOneLength() {
        Due.sentence("III", "DIFFER: the first DAY");
        WorkBoard b = Boards.of(2, 1, 0, 1);
        b.card(0, false);
        b.card(0, false);
        b.column(1, 0, 0, 1);
        b.other(0, 1, 1);
        Due.same("one run is at rest on the day on which the other goes on", b.differ(), 1);
        Due.same("LENGTH of the run", b.length(0, false), 1);
        Due.same("LENGTH of the other one", b.length(0, true), 3);
    }

    private static void differNever() {
        Due.sentence("15", "NONE if it never is so.");
        WorkBoard b = Boards.rich();
        for (int k = 0; k < 3; k++) {
            b.other(0, k, NONE);
            b.other(1, k, NONE);
            b.other(2, k, NONE);
        }
        b.other(3, 0, NONE);
        Due.same("as the run's", b.differ(), NONE);
        b.other(3, 0, 2);
        b.other(0, 0, 2);
        Due.same("the same, told", b.differ(), NONE);
        b.other(2, 0, 20);
        Due.same("hands in plenty are another thing", b.differ() == NONE ? 1 : 0, 0);
    }

    private static void differNeverWithoutCards() {
        Due.sentence("15", "NONE if it never is so.");
        WorkBoard b = new WorkBoard();
        b.other(0, 0, 0);
        b.other(1, 0, 0);
        b.other(2, 0, 0);
        b.other(3, 0, 9);
        Due.same("without cards", b.differ(), NONE);
        b.column(0, 0, 0, 0);
        b.card(0, false);
        b.card(99, true);
        b.other(2, 0, 20);
        Due.same("none goes in in either", b.differ(), NONE);
    }

    private static void promiseOf1To100() {
        Due.sentence("III", "PROMISE of a share (1 .. 100)");
        WorkBoard b = Boards.of(1, 1, 0, 1);
        Boards.come(b, 10, 0, false);
        for (int share = 1; share <= 100; share++) {
            Due.same("share " + share + " of ten", b.promise(share, false), (share + 9) / 10);
        }
        Due.same("share 0", b.promise(0, false), NONE);
        Due.same("share 101", b.promise(101, false), NONE);
    }

    private static void promiseAtLeast() {
        Due.sentence("III", "at least so many of a hundred are no older");
        WorkBoard b = Boards.of(1, 1, 0, 1);
        Boards.come(b, 3, 0, false);
        int[] shares = {1, 33, 34, 66, 67, 99, 100};
        int[] ages = {1, 1, 2, 2, 3, 3, 3};
        for (int i = 0; i < shares.length; i++) {
            Due.same("share " + shares[i] + " of three", b.promise(shares[i], false), ages[i]);
        }
        b.card(0, false);
        Due.same("just a quarter of four", b.promise(25, false), 1);
        Due.same("more than a quarter", b.promise(26, false), 2);
        Due.same("just three quarters", b.promise(75, false), 3);
        Due.same("more", b.promise(76, false), 4);
    }

    private static void promiseLeastAge() {
        Due.sentence("III", "the least AGE such that");
        WorkBoard b = Boards.of(1, 20, 5, 20);
        Boards.come(b, 4, 0, false);
        b.size(3, 0, 9);
        Due.same("three of AGE 1", b.promise(75, false), 1);
        Due.same("and one of AGE 9", b.promise(76, false), 9);
        for (int c = 0; c < 4; c++) {
            b.size(c, 0, 5);
        }
        Due.same("all of AGE 5: the least share", b.promise(1, false), 5);
        Due.same("all of AGE 5: all", b.promise(100, false), 5);
    }

    private static void promiseOfThoseDone() {
        Due.sentence("III", "of all CARDS that are DONE");
        WorkBoard b = Boards.of(1, 1, 0, 1);
        Boards.come(b, 2, 0, false);
        Boards.come(b, 14, 0, true);
        Due.same("half of two", b.promise(50, false), 1);
        Due.same("more than half of two", b.promise(51, false), 2);
        Due.same("all of two", b.promise(100, false), 2);
        b.column(0, 0, 1, 1);
        Due.same("one in fourteen", b.promise(7, false), 1);
        Due.same("more than one in fourteen", b.promise(8, false), 2);
        Due.same("all of fourteen", b.promise(100, false), 14);
    }

    private static void promiseFullBoard() {
        Due.sentence("III", "of all CARDS that are DONE at least so many of a hundred are no older");
        WorkBoard b = Boards.of(1, 1, 0, 1);
        Boards.come(b, 16, 0, false);
        int[] shares = {1, 6, 7, 12, 13, 18, 19, 25, 26, 50, 51, 93, 94, 100};
        int[] ages = {1, 1, 2, 2, 3, 3, 4, 4, 5, 8, 9, 15, 16, 16};
        for (int i = 0; i < shares.length; i++) {
            Due.same("share " + shares[i] + " of sixteen", b.promise(shares[i], false), ages[i]);
        }
    }

    private static void promiseOtherRun() {
        Due.sentence("16", "int promise(int share, boolean other)");
        WorkBoard b = Boards.of(1, 1, 0, 2);
        Boards.come(b, 2, 0, false);
        b.other(0, 0, 2);
        Due.same("the run", b.promise(100, false), 2);
        Due.same("the other one", b.promise(100, true), 1);
        b.other(0, 0, 0);
        Due.same("the run", b.promise(1, false), 1);
        Due.same("none is DONE in the other one", b.promise(1, true), NONE);
    }

    private static void promiseRefused() {
        Due.sentence("16", "NONE: another share");
        WorkBoard b = Boards.rich();
        int[] wrong = {0, -1, -50, -100, 101, 200};
        for (int share : wrong) {
            Due.same("share " + share, b.promise(share, false), NONE);
            Due.same("share " + share, b.promise(share, true), NONE);
        }
        for (int share : FAR) {
            Due.same("share " + share, b.promise(share, false), NONE);
        }
    }

    private static void promiseNoCardIsDone() {
        Due.sentence("16", "or no CARD is DONE");
        WorkBoard b = new WorkBoard();
        Due.same("no cards: 1", b.promise(1, false), NONE);
        Due.same("no cards: 100", b.promise(100, true), NONE);
        b.column(0, 1, 0, 0);
        Boards.come(b, 16, 0, false);
        Due.same("none of sixteen: 1", b.promise(1, false), NONE);
        Due.same("none of sixteen: 100", b.promise(100, false), NONE);
        b.size(15, 0, 0);
        Due.same("still none: the first one stands in the way", b.promise(1, false), NONE);
        b.size(0, 0, 0);
        Due.same("one of them: 1", b.promise(1, false), 1);
        Due.same("one of them: 100", b.promise(100, false), 1);
    }

    private static void bestUpTo1To4() {
        Due.sentence("III", "BEST LIMITS up to m (1 .. 4)");
        WorkBoard b = Boards.of(1, 1, 0, 20);
        Boards.come(b, 5, 0, false);
        int[] sums = {1 + 2 + 3 + 4 + 5, 1 + 1 + 2 + 2 + 3, 1 + 1 + 1 + 2 + 2, 1 + 1 + 1 + 1 + 2};
        for (int m = 1; m <= 4; m++) {
            Due.same("best(" + m + ")", b.best(m), sums[m - 1]);
            Due.same("bestLimit(" + m + ", 0)", b.bestLimit(m, 0), m);
        }
        Due.same("best(0)", b.best(0), NONE);
        Due.same("best(5)", b.best(5), NONE);
    }

    private static void bestByWhichAllAreDone() {
        Due.sentence("III", "by which all CARDS are DONE");
        WorkBoard b = Boards.of(2, 1, 0, 20);
        Boards.come(b, 2, 0, false);
        b.back(0, 1, 0);
        Due.same("by 1, 1 each keeps the other out", b.best(1), NONE);
        Due.same("by 2, 2 they don't", b.best(2), 4 + 2);
        Due.same("LIMIT of column 0", b.bestLimit(2, 0), 2);
        Due.same("LIMIT of column 1", b.bestLimit(2, 1), 2);
        b.card(0, true);
        Due.same("one that never is", b.best(4), NONE);
    }

    private static void bestOfAllColumns() {
        Due.sentence("III", "of all LIMITS 1 .. m of all COLUMNS");
        for (int k = 0; k < 4; k++) {
            WorkBoard b = Boards.of(4, 20, 0, 20);
            Boards.come(b, 4, 0, false);
            for (int c = 0; c < 4; c++) {
                for (int j = 0; j < 4; j++) {
                    b.size(c, j, j == k ? 9 : 1);
                }
            }
            int sum = b.best(4);
            Due.same("all go on as one", sum, 4 * 12);
            for (int j = 0; j < 4; j++) {
                Due.same("LIMIT of " + j, b.bestLimit(4, j), 4);
            }
        }
    }

    private static void bestLeastSum() {
        Due.sentence("III", "those with the least sum of AGES");
        WorkBoard b = Boards.of(1, 20, 0, 2);
        b.pace(1);
        Boards.come(b, 4, 0, false);
        for (int c = 0; c < 4; c++) {
            b.size(c, 0, 2);
        }
        Due.same("one by one", b.best(1), 2 + 4 + 6 + 8);
        Due.same("two by two", b.best(2), 2 + 2 + 4 + 4);
        Due.same("the hands are not more", b.best(4), 2 + 2 + 4 + 4);
        Due.same("so two", b.bestLimit(4, 0), 2);
    }

    /** By LIMIT 1 in column 0 the card that comes back goes in behind the other; by 1, 1 the two jam. */
    private static void bestIsNotTheMost() {
        Due.sentence("III", "those with the least sum of AGES");
        WorkBoard b = Boards.of(2, 20, 0, 1);
        b.card(1, false);
        b.card(0, false);
        b.size(0, 0, 3);
        b.size(1, 0, 0);
        b.size(1, 1, 2);
        b.back(1, 1, 0);
        Due.same("by 20, 20", b.length(2, false), 6 + 6);
        Due.same("up to 1", b.best(1), NONE);
        for (int m = 2; m <= 4; m++) {
            Due.same("up to " + m, b.best(m), 4 + 7);
            Due.same("LIMIT of 0", b.bestLimit(m, 0), 1);
            Due.same("LIMIT of 1", b.bestLimit(m, 1), 2);
        }
    }

    private static void bestFirstByColumns() {
        Due.sentence("III", "of these the first by COLUMNS");
        WorkBoard b = Boards.of(4, 20, 0, 20);
        b.card(0, false);
        Due.same("all are the same", b.best(4), 4);
        for (int k = 0; k < 4; k++) {
            Due.same("LIMIT of " + k, b.bestLimit(4, k), 1);
        }
    }

    /** By 1, 1 the two jam; by 1, 2, by 2, 1 and by 2, 2 their AGES are 5 and 4. */
    private static void bestFirstByColumnsOfThree() {
        Due.sentence("III", "of these the first by COLUMNS");
        WorkBoard b = Boards.of(2, 2, 0, 1);
        Boards.come(b, 2, 0, false);
        b.size(0, 1, 0);
        b.size(1, 0, 2);
        b.size(1, 1, 0);
        b.back(0, 1, 0);
        for (int limits = 1; limits < 4; limits++) {
            b.column(0, 1 + limits / 2, 0, 1);
            b.column(1, 1 + limits % 2, 0, 1);
            Due.same("the sum by the limits " + limits, b.length(2, false), 5 + 4);
        }
        Due.same("by 1, 1", b.best(1), NONE);
        Due.same("the least sum", b.best(2), 5 + 4);
        Due.same("LIMIT of 0", b.bestLimit(2, 0), 1);
        Due.same("LIMIT of 1", b.bestLimit(2, 1), 2);
    }

    private static void bestChangesNothing() {
        Due.sentence("17", "The sum of AGES by the BEST LIMITS up to m.");
        WorkBoard b = Boards.rich();
        int[] ahead = Boards.answers(b);
        for (int m = 0; m <= 5; m++) {
            b.best(m);
            b.bestLimit(m, 1);
        }
        Due.same("all answers", Boards.answers(b), ahead);
    }

    private static void bestFollowsWhatIsTold() {
        Due.sentence("17", "The sum of AGES by the BEST LIMITS up to m.");
        WorkBoard b = Boards.of(1, 1, 0, 2);
        Boards.come(b, 2, 0, false);
        bestIs("two cards", b, 2, 2);
        b.card(0, false);
        bestIs("three cards", b, 4, 2);
        b.size(0, 0, 2);
        bestIs("a larger one", b, 5, 2);
        b.pace(2);
        bestIs("PACE 2", b, 5, 2);
        b.column(0, 1, 0, 3);
        bestIs("three hands", b, 4, 2);
        b.waits(1, 0);
        bestIs("one WAITS", b, 4, 2);
        b.columns(1);
        bestIs("no cards", b, 0, 1);
    }

    private static void bestIs(String of, WorkBoard b, int sum, int limit) {
        Due.same(of + ": sum", b.best(4), sum);
        Due.same(of + ": LIMIT", b.bestLimit(4, 0), limit);
    }

    private static void bestOwnLimitsDontCount() {
        Due.sentence("III", "of all LIMITS 1 .. m of all COLUMNS");
        WorkBoard b = Boards.of(1, 0, 1, 20);
        Boards.come(b, 2, 0, false);
        b.card(0, true);
        Due.same("LIMIT 0 of the run", b.length(2, false), NONE);
        Due.same("LIMIT 1", b.best(1), 1 + 2 + 1);
        b.other(0, 0, 0);
        b.other(2, 0, 0);
        b.other(3, 0, 9);
        Due.same("nor do the other run's", b.best(2), 3);
        b.column(0, 0, 0, 20);
        Due.same("its LANE does", b.best(2), NONE);
        b.column(0, 0, 1, 0);
        Due.same("its HANDS do", b.best(2), NONE);
    }

    private static void bestWithoutCards() {
        Due.sentence("III", "by which all CARDS are DONE those with the least sum of AGES");
        for (int n = 1; n <= 4; n++) {
            WorkBoard b = Boards.of(n, 0, 0, 0);
            Due.same("without cards", b.best(4), 0);
            for (int k = 0; k < n; k++) {
                Due.same("LIMIT of " + k, b.bestLimit(4, k), 1);
            }
        }
    }

    private static void bestFullBoard() {
        Due.sentence("III", "of all LIMITS 1 .. m of all COLUMNS");
        WorkBoard b = Boards.of(4, 1, 0, 20);
        Boards.come(b, 16, 99, false);
        Due.same("one by one", b.best(1), 16 * 4 + 120);
        Due.same("four by four", b.best(4), 4 * (4 + 5 + 6 + 7));
        for (int k = 0; k < 4; k++) {
            Due.same("LIMIT of " + k, b.bestLimit(4, k), 4);
        }
    }

    private static void bestRefused() {
        Due.sentence("17", "NONE: another m");
        WorkBoard b = Boards.rich();
        int[] wrong = {0, -1, -4, 5, 6, 20};
        for (int m : wrong) {
            Due.same("best(" + m + ")", b.best(m), NONE);
        }
        for (int m : FAR) {
            Due.same("best(" + m + ")", b.best(m), NONE);
        }
    }

    private static void bestNone() {
        Due.sentence("17", "or there are none");
        WorkBoard b = Boards.of(2, 20, 5, 20);
        Boards.come(b, 16, 0, false);
        Due.same("there are some", b.best(1), 16 * 2 + 120);
        b.column(1, 20, 5, 0);
        for (int m = 1; m <= 4; m++) {
            Due.same("no hands: best(" + m + ")", b.best(m), NONE);
        }
        b.column(1, 20, 5, 20);
        Due.same("some again", b.best(1), 16 * 2 + 120);
    }

    private static void bestLimitOfAColumn() {
        Due.sentence("18", "The BEST LIMIT of a COLUMN.");
        WorkBoard b = Boards.of(3, 20, 0, 20);
        b.column(1, 20, 0, 1);
        Boards.come(b, 3, 0, false);
        for (int c = 0; c < 3; c++) {
            b.size(c, 0, 3);
            b.size(c, 2, 2);
        }
        Due.same("3 together, one by one, 2 each", b.best(4), (4 + 2) + (5 + 2) + (6 + 2));
        Due.same("LIMIT of 0", b.bestLimit(4, 0), 3);
        Due.same("LIMIT of 1", b.bestLimit(4, 1), 1);
        Due.same("LIMIT of 2", b.bestLimit(4, 2), 2);
        Due.same("up to 1", b.bestLimit(1, 0), 1);
        Due.same("up to 2", b.bestLimit(2, 0), 2);
        Due.same("up to 3, asked last", b.bestLimit(3, 0), 3);
    }

    private static void bestLimitRefused() {
        Due.sentence("18", "and for others");
        WorkBoard b = Boards.of(3, 3, 1, 2);
        b.card(0, false);
        Due.same("the last column", b.bestLimit(4, 2), 1);
        Due.same("k -1", b.bestLimit(4, -1), NONE);
        Due.same("k n", b.bestLimit(4, 3), NONE);
        Due.same("k 4", b.bestLimit(4, 4), NONE);
        for (int k : FAR) {
            Due.same("k " + k, b.bestLimit(4, k), NONE);
        }
    }

    private static void bestLimitNoneAsAbove() {
        Due.sentence("18", "NONE as above");
        WorkBoard b = Boards.of(1, 3, 1, 2);
        b.card(0, false);
        Due.same("m 1", b.bestLimit(1, 0), 1);
        Due.same("m 4", b.bestLimit(4, 0), 1);
        Due.same("m 0", b.bestLimit(0, 0), NONE);
        Due.same("m 5", b.bestLimit(5, 0), NONE);
        for (int m : FAR) {
            Due.same("m " + m, b.bestLimit(m, 0), NONE);
        }
        b.column(0, 3, 1, 0);
        Due.same("there are none", b.bestLimit(4, 0), NONE);
    }

    private static void costOfOthers() {
        Due.sentence("III", "COST: the sum of the AGES of CARDS that aren't URGENT, less the same where nobody is URGENT.");
        WorkBoard b = Boards.of(1, 3, 1, 1);
        Boards.come(b, 2, 0, false);
        b.card(0, true);
        b.size(2, 0, 4);
        Due.same("in the run", b.told(0, 1, false) + b.told(1, 1, false), 5 + 6);
        Due.same("less 1 and 2", b.cost(), 11 - 3);
        b.card(0, true);
        Due.same("by lane 1 the second one comes ahead of them, too", b.cost(), 6 + 7 - 3);
    }

    private static void costLessThanNothing() {
        Due.sentence("III", "less the same where nobody is URGENT");
        WorkBoard b = Boards.of(1, 1, 5, 20);
        Boards.come(b, 15, 0, true);
        b.card(0, false);
        Due.same("fifteen stand ahead of it where nobody is urgent", b.cost(), 1 - 16);
    }

    private static void costZero() {
        Due.sentence("19", "COST.");
        WorkBoard b = Boards.of(1, 20, 5, 20);
        Due.same("without cards", b.cost(), 0);
        b.card(0, true);
        Due.same("all are urgent", b.cost(), 0);
        b.columns(1);
        b.card(0, false);
        Due.same("none is urgent", b.cost(), 0);
        b.column(0, 20, 5, 20);
        b.card(0, true);
        Due.same("hands for all", b.cost(), 0);
        b.other(2, 0, 0);
        Due.same("the other run doesn't count", b.cost(), 0);
    }

    private static void costNotDoneInTheRun() {
        Due.sentence("19", "-100000: some CARD isn't DONE in one of the two.");
        WorkBoard b = Boards.of(1, 1, 1, 0);
        b.card(0, false);
        Due.same("in both", b.cost(), NO_COST);
        b.column(0, 1, 0, 1);
        b.card(0, true);
        Due.same("the urgent one, in the run alone", b.cost(), NO_COST);
        b.column(0, 1, 1, 1);
        Due.same("in none", b.cost(), 2 - 1);
    }

    private static void costNotDoneInTheOther() {
        Due.sentence("19", "-100000: some CARD isn't DONE in one of the two.");
        WorkBoard b = Boards.of(2, 1, 1, 20);
        b.card(0, false);
        b.card(0, true);
        b.back(0, 1, 0);
        Due.same("DONE in the run", b.length(2, false), 4 + 2);
        Due.same("each keeps the other out where nobody is urgent", b.cost(), NO_COST);
        b.back(0, NONE, 0);
        Due.same("DONE in both", b.cost(), 0);
    }

    private static void costUrgentOneNotDone() {
        Due.sentence("19", "-100000: some CARD isn't DONE in one of the two.");
        WorkBoard b = Boards.of(1, 0, 5, 20);
        Boards.come(b, 16, 0, true);
        Due.same("all are DONE in the run", b.length(1, false), NONE);
        Due.same("none is where nobody is urgent", b.cost(), NO_COST);
        b.column(0, 1, 0, 20);
        Due.same("none is in the run", b.length(1, false), 0);
        Due.same("all are where nobody is urgent", b.cost(), NO_COST);
    }
}
