/** Terms I, promises 1 to 9 and 20: each sentence that names a boundary case has a test of its own. */
public final class TellingBoundsTest {
    private static final int NONE = Boards.NONE;
    private static final int[] FAR = Boards.FAR;

    public static void main(String[] args) {
        calls512();
        oneToFourColumns();
        limitOf0To20();
        laneOf0To5();
        handsOf0To20();
        paceOf1To9();
        atFirst();
        cards0To15();
        daysOfComing0To99();
        sizesOf0To9();
        sizesAtFirst();
        waitsForOneToldAhead();
        backBelowR();
        backTheFirstTimeAlone();
        newObject();
        newObjectIsEmpty();
        newObjectIsItsOwn();
        columnsAsTheFirstOne();
        columnsNoCards();
        columnsNoOthers();
        columnsPaceOne();
        columnsRefused();
        columnTrue();
        columnOthersGone();
        columnRefused();
        paceTrue();
        paceRefused();
        cardNumber();
        cardRefused();
        cardThereAre16();
        sizeTrue();
        sizeRefused();
        sizeOfOneThatIsNotThere();
        waitsTrue();
        waitsForNone();
        waitsRefused();
        backTrue();
        backNoneWhateverQ();
        backRefused();
        otherLimit();
        otherLane();
        otherHands();
        otherPace();
        otherPaceWhateverK();
        otherNone();
        otherRefused();
        otherColumnRefused();
        otherWhatRefused();
        aboutTells();
        aboutRefused();
        Due.end("TellingBoundsTest");
    }

    private static void calls512() {
        Due.sentence("What it is", "An object is used for at most 512 calls");
        WorkBoard b = Boards.rich();
        int made = 5 + 5 * 4 + 4 + 4;
        for (; made < 510; made++) {
            b.size(made % 5, made % 3, made % 10);
        }
        Due.same("call 511", b.card(3, true), 5);
        Due.same("call 512", b.about(1), 6);
    }

    private static void oneToFourColumns() {
        Due.sentence("I", "COLUMNS 0 .. n - 1 (1 to 4)");
        for (int n = 1; n <= 4; n++) {
            WorkBoard b = new WorkBoard();
            Due.yes("columns(" + n + ")", b.columns(n));
            Due.same("about(0)", b.about(0), n);
            Due.yes("column " + (n - 1), b.column(n - 1, 1, 1, 1));
            Due.no("column " + n, b.column(n, 1, 1, 1));
            Due.no("column -1", b.column(-1, 1, 1, 1));
            b.card(0, false);
            Due.same("a day in each", b.told(0, 1, false), n);
        }
        WorkBoard b = new WorkBoard();
        Due.no("columns(0)", b.columns(0));
        Due.no("columns(5)", b.columns(5));
    }

    private static void limitOf0To20() {
        Due.sentence("I", "a LIMIT (0 .. 20)");
        WorkBoard b = new WorkBoard();
        Boards.come(b, 16, 0, false);
        for (int v = 0; v <= 20; v++) {
            Due.yes("limit " + v, b.column(0, v, 0, 0));
            Due.same("limit " + v + ": in the column", b.counts(0, 10, false), Math.min(v, 16));
        }
        Due.no("limit -1", b.column(0, -1, 0, 0));
        Due.no("limit 21", b.column(0, 21, 0, 0));
    }

    private static void laneOf0To5() {
        Due.sentence("I", "a LANE (0 .. 5)");
        WorkBoard b = new WorkBoard();
        Boards.come(b, 16, 0, true);
        for (int v = 0; v <= 5; v++) {
            Due.yes("lane " + v, b.column(0, 0, v, 0));
            Due.same("lane " + v + ": in the column", b.counts(0, 10, false), v);
        }
        Due.no("lane -1", b.column(0, 0, -1, 0));
        Due.no("lane 6", b.column(0, 0, 6, 0));
    }

    private static void handsOf0To20() {
        Due.sentence("I", "HANDS (0 .. 20)");
        WorkBoard b = handsAreCounted();
        for (int v = 0; v <= 20; v++) {
            Due.yes("hands " + v, b.column(0, 20, 0, v));
            Due.same("hands " + v + ": DONE", b.counts(0, 1, false), doneByHands(v));
        }
        Due.no("hands -1", b.column(0, 20, 0, -1));
        Due.no("hands 21", b.column(0, 20, 0, 21));
    }

    /** Sixteen cards: the first one takes nine hands, each of the others one. */
    private static WorkBoard handsAreCounted() {
        WorkBoard b = Boards.of(1, 20, 0, 0);
        b.pace(9);
        Boards.come(b, 16, 0, false);
        b.size(0, 0, 9);
        return b;
    }

    private static int doneByHands(int hands) {
        return hands < 9 ? 0 : hands - 8;
    }

    private static void paceOf1To9() {
        Due.sentence("I", "PACE (1 .. 9)");
        WorkBoard b = Boards.of(1, 1, 0, 20);
        b.card(0, false);
        b.size(0, 0, 9);
        int[] days = {9, 5, 3, 3, 2, 2, 2, 2, 1};
        for (int v = 1; v <= 9; v++) {
            Due.yes("pace " + v, b.pace(v));
            Due.same("pace " + v + ": days", b.told(0, 1, false), days[v - 1]);
        }
        Due.no("pace 0", b.pace(0));
        Due.no("pace 10", b.pace(10));
    }

    private static void atFirst() {
        Due.sentence("I", "At first one COLUMN, LIMIT 3, LANE 1, HANDS 2; PACE 1.");
        looksAtFirst(new WorkBoard(), 0);
    }

    /** No card is on the board; those that come now meet column k as it was at first. */
    private static void looksAtFirst(WorkBoard b, int k) {
        Boards.come(b, 5, 0, false);
        Boards.come(b, 3, 0, true);
        for (int c = 0; c < 8; c++) {
            for (int j = 0; j < k; j++) {
                b.column(j, 20, 5, 20);
                b.size(c, j, 0);
            }
            b.size(c, k, 2);
        }
        Due.same("LIMIT 3 and LANE 1", b.counts(k, 10 + k, false), 4);
        Due.same("LIMIT 3: the third one", b.at(2, k, false), k);
        Due.same("LIMIT 3: the fourth one", b.at(3, k, false), k == 0 ? 11 : k - 1);
        Due.same("LANE 1: the first one", b.at(5, k, false), k);
        Due.same("LANE 1: the second one", b.at(6, k, false), k == 0 ? 11 : k - 1);
        Due.same("HANDS 2: the urgent one", b.reason(5, k, false), 1);
        Due.same("HANDS 2: the first one", b.reason(0, k, false), 1);
        Due.same("HANDS 2: the second one", b.reason(1, k, false), 4);
        Due.same("PACE 1: two units on two days", b.at(5, k, false), k);
        Due.same("PACE 1: two units on two days", b.told(5, 2, false), k + 2 + daysBehind(b, k));
    }

    private static int daysBehind(WorkBoard b, int k) {
        return b.about(0) - 1 - k;
    }

    private static void cards0To15() {
        Due.sentence("I", "CARDS 0 .. 15");
        WorkBoard b = new WorkBoard();
        for (int c = 0; c < 16; c++) {
            Due.same("a card", b.card(c, false), c);
            Due.same("it is told", b.told(c, 0, false), c);
            Due.same("the next one isn't there", b.told(c + 1, 0, false), NONE);
        }
        Due.same("card 16", b.card(16, false), NONE);
        Due.same("card 16 isn't there", b.at(16, 16, false), NONE);
    }

    private static void daysOfComing0To99() {
        Due.sentence("I", "the DAY on which it comes (0 .. 99)");
        WorkBoard b = new WorkBoard();
        for (int day = 0; day <= 99; day++) {
            if (day % 14 == 0) {
                b = new WorkBoard();
            }
            int c = b.card(day, day % 2 == 0);
            Due.same("not come ahead of " + day, day == 0 ? NONE : b.at(c, day - 1, false), NONE);
            Due.same("come on " + day, b.at(c, day, false), 10);
            Due.same("DONE on " + day, b.told(c, 0, false), day);
        }
        Due.same("day -1", b.card(-1, false), NONE);
        Due.same("day 100", b.card(100, false), NONE);
    }

    private static void sizesOf0To9() {
        Due.sentence("I", "a SIZE in each COLUMN (0 .. 9");
        for (int k = 0; k < 4; k++) {
            WorkBoard b = Boards.of(4, 20, 5, 20);
            b.card(0, false);
            for (int v = 0; v <= 9; v++) {
                Due.yes("size " + v, b.size(0, k, v));
                Due.same("size " + v + " in column " + k, b.told(0, 1, false), 3 + Math.max(v, 1));
            }
            Due.no("size -1", b.size(0, k, -1));
            Due.no("size 10", b.size(0, k, 10));
        }
    }

    /** By pace 9 alone, none and one are told apart by their hands. */
    private static void sizesAtFirst() {
        Due.sentence("I", "at first 1");
        for (int k = 0; k < 4; k++) {
            WorkBoard b = Boards.of(4, 20, 5, 2);
            b.pace(9);
            Boards.come(b, 3, 0, false);
            b.column(k, 20, 5, 1);
            Due.same("one unit in column " + k, b.told(0, 1, false), 4);
            Due.same("not none in column " + k, b.at(1, k, false), k);
            Due.same("and so on, one a day", b.told(2, 5, false), 2);
        }
    }

    private static void waitsForOneToldAhead() {
        Due.sentence("I", "perhaps a CARD told ahead of it that it WAITS for");
        WorkBoard b = Boards.of(1, 20, 5, 20);
        Boards.come(b, 16, 0, false);
        for (int c = 0; c < 16; c++) {
            for (int other = 0; other < 16; other++) {
                Due.same("waits(" + c + ", " + other + ")", b.waits(c, other) ? 1 : 0, other < c ? 1 : 0);
            }
        }
        for (int c = 0; c < 16; c++) {
            Due.same("each waits for the one told last", b.told(c, 0, false), c);
        }
    }

    private static void backBelowR() {
        Due.sentence("I", "it goes to COLUMN q (below r)");
        for (int n = 1; n <= 4; n++) {
            WorkBoard b = Boards.of(n, 20, 5, 20);
            b.card(0, false);
            for (int r = 0; r <= 4; r++) {
                for (int q = -1; q <= 4; q++) {
                    boolean fits = r < n && q >= 0 && q < r;
                    Due.same(n + " columns, back(0, " + r + ", " + q + ")", b.back(0, r, q) ? 1 : 0, fits ? 1 : 0);
                    if (fits) {
                        Due.same("columns q .. r once more", b.told(0, 1, false), n + r - q + 1);
                    }
                }
            }
        }
    }

    private static void backTheFirstTimeAlone() {
        Due.sentence("I", "as it is through COLUMN r for the first time it goes to COLUMN q instead, and on from there");
        for (int r = 1; r < 4; r++) {
            for (int q = 0; q < r; q++) {
                WorkBoard b = Boards.of(4, 20, 5, 20);
                b.card(0, false);
                b.back(0, r, q);
                int day = 0;
                for (int k = 0; k <= r; k++) {
                    Due.same("to r: day " + day, b.at(0, day, false), k);
                    day++;
                }
                for (int k = q; k < 3; k++) {
                    Due.same("from q on: day " + day, b.at(0, day, false), k);
                    day++;
                }
                Due.same("DONE with the last one", b.at(0, day, false), 10);
            }
        }
    }

    private static void newObject() {
        Due.sentence("1", "One COLUMN");
        WorkBoard b = new WorkBoard();
        Due.same("about(0)", b.about(0), 1);
        Due.same("NONE", WorkBoard.NONE, -1);
        Due.same("counts(0, 10)", b.counts(0, 10, false), 0);
        Due.same("counts(0, 11)", b.counts(0, 11, false), NONE);
        Due.no("a column 1", b.column(1, 3, 1, 2));
        Due.yes("a column 0", b.column(0, 3, 1, 2));
    }

    private static void newObjectIsEmpty() {
        Due.sentence("1", "no CARDS");
        WorkBoard b = new WorkBoard();
        Due.same("about(1)", b.about(1), 0);
        Due.same("told(0, 0)", b.told(0, 0, false), NONE);
        Due.same("told(0, 2)", b.told(0, 2, false), NONE);
        Due.same("at(0, 0)", b.at(0, 0, false), NONE);
        Due.same("reason(0, 0)", b.reason(0, 0, false), NONE);
        Due.no("size of none", b.size(0, 0, 1));
        Due.no("waits of none", b.waits(0, NONE));
        Due.no("back of none", b.back(0, NONE, 0));
        for (int what = 0; what < 4; what++) {
            Due.same("counts(3000, " + what + ")", b.counts(3000, what, true), 0);
        }
        Due.same("differ", b.differ(), NONE);
        Due.same("the first card", b.card(0, false), 0);
    }

    private static void newObjectIsItsOwn() {
        Due.sentence("1", "WorkBoard()");
        WorkBoard first = Boards.rich();
        int[] ahead = Boards.answers(first);
        WorkBoard second = new WorkBoard();
        Due.same("about(1) of the second one", second.about(1), 0);
        second.columns(4);
        Boards.come(second, 16, 99, true);
        second.pace(9);
        Due.same("the first one", Boards.answers(first), ahead);
    }

    /** Of every number of columns, behind others that were all unlike. */
    private static void columnsAsTheFirstOne() {
        Due.sentence("2", "n COLUMNS, as the first one at first");
        for (int n = 1; n <= 4; n++) {
            for (int k = 0; k < n; k++) {
                WorkBoard b = Boards.of(4, 20, 5, 20);
                Due.yes("columns(" + n + ")", b.columns(n));
                Due.same("about(0)", b.about(0), n);
                looksAtFirst(b, k);
            }
        }
        WorkBoard b = Boards.of(2, 0, 0, 0);
        b.columns(1);
        b.columns(2);
        looksAtFirst(b, 1);
    }

    private static void columnsNoCards() {
        Due.sentence("2", "no CARDS");
        WorkBoard b = Boards.of(3, 20, 5, 20);
        Boards.come(b, 16, 99, true);
        for (int c = 0; c < 16; c++) {
            b.size(c, c % 3, 9);
            b.waits(c, c - 1);
            b.back(c, 2, 1);
        }
        Due.yes("columns(3)", b.columns(3));
        Due.same("about(1)", b.about(1), 0);
        Due.same("length(0)", b.length(0, false), 0);
        for (int k = 0; k < 3; k++) {
            b.column(k, 20, 5, 20);
        }
        for (int c = 0; c < 16; c++) {
            Due.same("sixteen new ones", b.card(0, false), c);
        }
        for (int c = 0; c < 16; c++) {
            Due.same("the old ones' days, sizes, WAITS and BACK are gone", b.told(c, 1, false), 3);
        }
        b.column(0, 20, 0, 20);
        Due.same("nor are they urgent", b.counts(0, 10, false), 16);
    }

    private static void columnsNoOthers() {
        Due.sentence("2", "no others");
        WorkBoard b = new WorkBoard();
        b.columns(4);
        for (int k = 0; k < 4; k++) {
            b.other(0, k, 0);
            b.other(1, k, 0);
            b.other(2, k, 0);
        }
        b.other(3, 0, 9);
        Due.yes("columns(4)", b.columns(4));
        Due.same("about(3)", b.about(3), 1);
        b.card(0, false);
        b.card(0, true);
        b.size(1, 0, 3);
        Due.same("as the run", b.told(0, 0, true), 3);
        Due.same("as the run", b.told(1, 0, true), 5);
        Due.same("never another", b.differ(), NONE);
        b.pace(2);
        Due.same("about(3) goes with the run's", b.about(3), 2);
    }

    private static void columnsPaceOne() {
        Due.sentence("2", "PACE 1");
        WorkBoard b = new WorkBoard();
        b.pace(9);
        Due.yes("columns(1)", b.columns(1));
        Due.same("about(2)", b.about(2), 1);
        b.card(0, false);
        b.size(0, 0, 2);
        Due.same("a unit a day", b.told(0, 1, false), 2);
    }

    private static void columnsRefused() {
        Due.sentence("2", "False for others.");
        Boards.refused("columns(0)", b -> b.columns(0));
        Boards.refused("columns(5)", b -> b.columns(5));
        Boards.refused("columns(-1)", b -> b.columns(-1));
        Boards.refused("columns(-4)", b -> b.columns(-4));
        for (int v : FAR) {
            Boards.refused("columns(" + v + ")", b -> b.columns(v));
        }
    }

    private static void columnTrue() {
        Due.sentence("3", "LIMIT, LANE, HANDS of a COLUMN: true");
        for (int k = 0; k < 4; k++) {
            WorkBoard b = Boards.of(4, 20, 5, 20);
            Boards.come(b, 7, 0, false);
            Boards.come(b, 6, 0, true);
            Due.yes("the least of " + k, b.column(k, 0, 0, 0));
            Due.same("none goes in", b.counts(3000, 10 + k, false), 0);
            Due.yes("the most of " + k, b.column(k, 20, 5, 20));
            Due.same("all go in", b.counts(k, 10 + k, false) + b.counts(k, 1, false), 12);
            Due.yes("unlike ones of " + k, b.column(k, 4, 2, 3));
            Due.same("LIMIT 4, LANE 2, HANDS 3", b.counts(k, 3, false), 13);
            Due.same("LIMIT 4: the fourth one is worked or not", b.reason(3, k, false), 4);
            Due.same("LIMIT 4: the fifth one", b.reason(4, k, false), 3);
            Due.same("LANE 2: the second one", b.reason(8, k, false), 1);
            Due.same("LANE 2: the third one", b.reason(9, k, false), 3);
            Due.same("HANDS 3: the third one", b.reason(0, k, false), 1);
            Due.same("HANDS 3: the fourth one", b.reason(1, k, false), 4);
        }
    }

    private static void columnOthersGone() {
        Due.sentence("3", "others told of it are gone");
        for (int what = 0; what < 3; what++) {
            WorkBoard b = Boards.of(2, 3, 1, 2);
            b.card(0, true);
            b.card(0, false);
            b.other(what, 0, 0);
            b.other(what, 1, 0);
            b.other(3, 0, 5);
            Due.same("others of both", b.counts(3000, 1, true), what < 2 ? 1 : 0);
            Due.yes("column(0, ..) as it was", b.column(0, 3, 1, 2));
            Due.same("those of column 0 are gone", b.counts(0, 10, true), 2);
            Due.same("those of column 1 stand", b.counts(3000, 1, true), what < 2 ? 1 : 0);
            Due.same("the other PACE stands", b.about(3), 5);
            Due.yes("column(1, ..) as it was", b.column(1, 3, 1, 2));
            Due.same("those of column 1 are gone, too", b.counts(3000, 1, true), 2);
        }
    }

    private static void columnRefused() {
        Due.sentence("3", "False, changing nothing, for others.");
        Boards.refused("k -1", b -> b.column(-1, 0, 0, 0));
        Boards.refused("k n", b -> b.column(3, 0, 0, 0));
        Boards.refused("limit -1", b -> b.column(0, -1, 0, 0));
        Boards.refused("limit 21", b -> b.column(1, 21, 0, 0));
        Boards.refused("lane -1", b -> b.column(1, 0, -1, 0));
        Boards.refused("lane 6", b -> b.column(2, 0, 6, 0));
        Boards.refused("hands -1", b -> b.column(2, 0, 0, -1));
        Boards.refused("hands 21", b -> b.column(0, 0, 0, 21));
        for (int v : FAR) {
            Boards.refused("k " + v, b -> b.column(v, 0, 0, 0));
            Boards.refused("limit " + v, b -> b.column(0, v, 0, 0));
            Boards.refused("lane " + v, b -> b.column(1, 0, v, 0));
            Boards.refused("hands " + v, b -> b.column(2, 0, 0, v));
        }
    }

    private static void paceTrue() {
        Due.sentence("4", "PACE: true.");
        WorkBoard b = new WorkBoard();
        for (int v = 9; v >= 1; v--) {
            Due.yes("pace(" + v + ")", b.pace(v));
            Due.same("about(2)", b.about(2), v);
        }
        b.other(3, 0, 4);
        Due.yes("pace(9)", b.pace(9));
        Due.same("the other one stands", b.about(3), 4);
    }

    private static void paceRefused() {
        Due.sentence("4", "False for others.");
        Boards.refused("pace(0)", b -> b.pace(0));
        Boards.refused("pace(10)", b -> b.pace(10));
        Boards.refused("pace(-1)", b -> b.pace(NONE));
        for (int v : FAR) {
            Boards.refused("pace(" + v + ")", b -> b.pace(v));
        }
    }

    private static void cardNumber() {
        Due.sentence("5", "A CARD: its number.");
        WorkBoard b = Boards.of(1, 0, 5, 20);
        Due.same("the first one", b.card(99, true), 0);
        Due.same("the second one", b.card(0, false), 1);
        Due.same("the third one, on the same day", b.card(0, true), 2);
        Due.same("about(1)", b.about(1), 3);
        Due.same("0 is urgent, of day 99", b.told(0, 0, false), 99);
        Due.same("1 isn't urgent", b.told(1, 0, false), NONE);
        Due.same("1 is of day 0", b.at(1, 0, false), 11);
        Due.same("2 is urgent, of day 0", b.told(2, 0, false), 0);
    }

    private static void cardRefused() {
        Due.sentence("5", "NONE for others");
        Boards.refused("card(-1)", b -> b.card(-1, false) != NONE);
        Boards.refused("card(100)", b -> b.card(100, true) != NONE);
        for (int v : FAR) {
            Boards.refused("card(" + v + ")", b -> b.card(v, v > 0) != NONE);
        }
        WorkBoard b = new WorkBoard();
        b.card(100, true);
        Due.same("the next one has the number", b.card(99, false), 0);
    }

    private static void cardThereAre16() {
        Due.sentence("5", "NONE if there are 16");
        WorkBoard b = Boards.of(1, 20, 0, 20);
        Boards.come(b, 15, 1, false);
        Due.same("the sixteenth", b.card(1, false), 15);
        int[] ahead = Boards.answers(b);
        Due.same("a seventeenth", b.card(0, true), NONE);
        Due.same("a seventeenth of a wrong day", b.card(-1, true), NONE);
        Due.same("a seventeenth on the last day", b.card(99, false), NONE);
        Due.same("about(1)", b.about(1), 16);
        Due.same("nothing has changed", Boards.answers(b), ahead);
        b.columns(1);
        Due.same("behind columns there is none", b.card(0, false), 0);
    }

    private static void sizeTrue() {
        Due.sentence("6", "A SIZE: true.");
        WorkBoard b = Boards.of(4, 20, 5, 20);
        Boards.come(b, 16, 0, false);
        Due.yes("the first card, the first column", b.size(0, 0, 9));
        Due.yes("the last card, the last column", b.size(15, 3, 9));
        for (int c = 0; c < 16; c++) {
            Due.same("AGE of " + c, b.told(c, 1, false), c == 0 || c == 15 ? 12 : 4);
        }
        Due.same("0 is long in column 0", b.at(0, 8, false), 0);
        Due.same("15 is long in column 3", b.at(15, 10, false), 3);
        Due.yes("the last one counts", b.size(0, 0, 2));
        Due.same("AGE", b.told(0, 1, false), 5);
    }

    private static void sizeRefused() {
        Due.sentence("6", "False for others.");
        Boards.refused("c -1", b -> b.size(-1, 0, 9));
        Boards.refused("c as many as there are", b -> b.size(5, 0, 9));
        Boards.refused("c 16", b -> b.size(16, 0, 9));
        Boards.refused("k -1", b -> b.size(1, -1, 9));
        Boards.refused("k n", b -> b.size(0, 3, 9));
        Boards.refused("k 4", b -> b.size(0, 4, 9));
        Boards.refused("v -1", b -> b.size(0, 0, -1));
        Boards.refused("v 10", b -> b.size(4, 2, 10));
        for (int v : FAR) {
            Boards.refused("c " + v, b -> b.size(v, 0, 9));
            Boards.refused("k " + v, b -> b.size(1, v, 9));
            Boards.refused("v " + v, b -> b.size(2, 1, v));
        }
    }

    private static void sizeOfOneThatIsNotThere() {
        Due.sentence("6", "False for others.");
        WorkBoard b = Boards.of(1, 20, 5, 20);
        Due.no("card 0 isn't there", b.size(0, 0, 9));
        b.card(0, false);
        Due.same("its SIZE is 1 at first", b.told(0, 1, false), 1);
    }

    private static void waitsTrue() {
        Due.sentence("7", "A CARD WAITS for one told ahead of it: true.");
        WorkBoard b = Boards.of(1, 20, 5, 20);
        Boards.come(b, 16, 0, false);
        b.size(0, 0, 3);
        Due.yes("the last one for the first one", b.waits(15, 0));
        Due.same("DONE", b.told(15, 0, false), 3);
        Due.yes("the last one for the one ahead", b.waits(15, 14));
        Due.same("the last word counts", b.told(15, 0, false), 1);
        Due.yes("the second one for the first one", b.waits(1, 0));
        Due.same("DONE", b.told(1, 0, false), 3);
        Due.same("none else waits", b.told(14, 0, false), 0);
    }

    private static void waitsForNone() {
        Due.sentence("7", "(NONE: for none)");
        WorkBoard b = Boards.of(1, 20, 5, 20);
        Boards.come(b, 2, 0, false);
        b.waits(1, 0);
        Due.same("it waits", b.told(1, 0, false), 1);
        Due.yes("for none", b.waits(1, NONE));
        Due.same("it doesn't wait", b.told(1, 0, false), 0);
        Due.yes("for none, once more", b.waits(1, NONE));
        Due.yes("the first one for none", b.waits(0, NONE));
        Due.same("it doesn't wait", b.told(0, 0, false), 0);
    }

    private static void waitsRefused() {
        Due.sentence("7", "False for others.");
        Boards.refused("the first one for itself", b -> b.waits(0, 0));
        Boards.refused("for itself", b -> b.waits(2, 2));
        Boards.refused("for the one behind", b -> b.waits(2, 3));
        Boards.refused("for the last one", b -> b.waits(0, 4));
        Boards.refused("for one that there isn't", b -> b.waits(4, 5));
        Boards.refused("c -1", b -> b.waits(-1, NONE));
        Boards.refused("c as many as there are", b -> b.waits(5, 1));
        Boards.refused("c as many as there are, for none", b -> b.waits(5, NONE));
        Boards.refused("c 16", b -> b.waits(16, 0));
        Boards.refused("other -2", b -> b.waits(4, -2));
        for (int v : FAR) {
            Boards.refused("c " + v, b -> b.waits(v, 0));
            Boards.refused("c " + v + " for none", b -> b.waits(v, NONE));
            Boards.refused("other " + v, b -> b.waits(4, v));
        }
        WorkBoard b = new WorkBoard();
        Due.no("on an empty board", b.waits(0, NONE));
    }

    private static void backTrue() {
        Due.sentence("8", "BACK of a CARD: true");
        WorkBoard b = Boards.of(4, 20, 5, 20);
        Boards.come(b, 16, 0, false);
        Due.yes("the first card, the least r", b.back(0, 1, 0));
        Due.yes("the last card, the most r, the least q", b.back(15, 3, 0));
        Due.yes("the most r and q", b.back(7, 3, 2));
        Due.same("AGE of 0", b.told(0, 1, false), 6);
        Due.same("AGE of 15", b.told(15, 1, false), 8);
        Due.same("AGE of 7", b.told(7, 1, false), 6);
        Due.same("AGE of another", b.told(8, 1, false), 4);
        Due.yes("the last word counts", b.back(15, 2, 1));
        Due.same("AGE of 15", b.told(15, 1, false), 6);
        Due.same("15 isn't sent back from column 3", b.at(15, 5, false), 10);
    }

    private static void backNoneWhateverQ() {
        Due.sentence("8", "(r NONE: none, whatever q)");
        WorkBoard b = Boards.of(2, 20, 5, 20);
        b.card(0, false);
        int[] any = {NONE, 0, 1, 2, -2, Integer.MIN_VALUE, Integer.MAX_VALUE};
        for (int q : any) {
            b.back(0, 1, 0);
            Due.same("BACK", b.told(0, 1, false), 4);
            Due.yes("back(0, NONE, " + q + ")", b.back(0, NONE, q));
            Due.same("none", b.told(0, 1, false), 2);
        }
        b.columns(1);
        b.card(0, false);
        Due.yes("by one column, too", b.back(0, NONE, 0));
    }

    private static void backRefused() {
        Due.sentence("8", "False, changing nothing, for others.");
        Boards.refused("r 0, q 0", b -> b.back(0, 0, 0));
        Boards.refused("r 0, q NONE", b -> b.back(0, 0, NONE));
        Boards.refused("q = r", b -> b.back(0, 2, 2));
        Boards.refused("q above r", b -> b.back(0, 1, 2));
        Boards.refused("q -1", b -> b.back(0, 2, -1));
        Boards.refused("q -2", b -> b.back(1, 1, -2));
        Boards.refused("r n", b -> b.back(0, 3, 0));
        Boards.refused("r n, q n - 1", b -> b.back(0, 3, 2));
        Boards.refused("r -2, q -3", b -> b.back(0, -2, -3));
        Boards.refused("c -1", b -> b.back(-1, 1, 0));
        Boards.refused("c -1 for none", b -> b.back(-1, NONE, 0));
        Boards.refused("c as many as there are", b -> b.back(5, 1, 0));
        Boards.refused("c as many as there are, for none", b -> b.back(5, NONE, 0));
        for (int v : FAR) {
            Boards.refused("c " + v, b -> b.back(v, 1, 0));
            Boards.refused("c " + v + " for none", b -> b.back(v, NONE, NONE));
            Boards.refused("r " + v, b -> b.back(0, v, 0));
            Boards.refused("q " + v, b -> b.back(0, 2, v));
            Boards.refused("r and q " + v, b -> b.back(1, v, v));
        }
    }

    private static void otherLimit() {
        Due.sentence("9", "THE OTHER RUN's LIMIT (what 0)");
        WorkBoard b = new WorkBoard();
        Boards.come(b, 16, 0, false);
        b.column(0, 7, 1, 0);
        for (int v = 0; v <= 20; v++) {
            Due.yes("limit " + v, b.other(0, 0, v));
            Due.same("limit " + v + ": in the column", b.counts(0, 10, true), Math.min(v, 16));
        }
        Due.same("the run has its own", b.counts(0, 10, false), 7);
    }

    private static void otherLane() {
        Due.sentence("9", "LANE (1)");
        WorkBoard b = new WorkBoard();
        Boards.come(b, 16, 0, true);
        b.column(0, 7, 3, 0);
        for (int v = 0; v <= 5; v++) {
            Due.yes("lane " + v, b.other(1, 0, v));
            Due.same("lane " + v + ": in the column", b.counts(0, 10, true), v);
        }
        Due.same("the run has its own", b.counts(0, 10, false), 3);
    }

    private static void otherHands() {
        Due.sentence("9", "HANDS (2) of a COLUMN");
        WorkBoard b = handsAreCounted();
        b.column(0, 20, 0, 10);
        for (int v = 0; v <= 20; v++) {
            Due.yes("hands " + v, b.other(2, 0, v));
            Due.same("hands " + v + ": DONE", b.counts(0, 1, true), doneByHands(v));
        }
        Due.same("the run has its own", b.counts(0, 1, false), 2);
    }

    private static void otherPace() {
        Due.sentence("9", "PACE (3");
        WorkBoard b = Boards.of(1, 1, 0, 20);
        b.card(0, false);
        b.size(0, 0, 9);
        b.pace(4);
        int[] days = {9, 5, 3, 3, 2, 2, 2, 2, 1};
        for (int v = 1; v <= 9; v++) {
            Due.yes("pace " + v, b.other(3, 0, v));
            Due.same("about(3)", b.about(3), v);
            Due.same("pace " + v + ": days", b.told(0, 1, true), days[v - 1]);
        }
        Due.same("the run has its own", b.told(0, 1, false), 3);
        Due.same("the run has its own", b.about(2), 4);
    }

    private static void otherPaceWhateverK() {
        Due.sentence("9", "k doesn't count");
        WorkBoard b = new WorkBoard();
        int[] any = {0, NONE, 1, 4, -2, Integer.MIN_VALUE, Integer.MAX_VALUE};
        for (int k : any) {
            Due.yes("other(3, " + k + ", 6)", b.other(3, k, 6));
            Due.same("about(3)", b.about(3), 6);
            Due.yes("other(3, " + k + ", NONE)", b.other(3, k, NONE));
            Due.same("about(3)", b.about(3), 1);
        }
    }

    private static void otherNone() {
        Due.sentence("9", "NONE: as the run's");
        for (int k = 0; k < 4; k++) {
            WorkBoard b = Boards.of(4, 20, 5, 20);
            Boards.come(b, 2, 0, false);
            Boards.come(b, 2, 0, true);
            for (int what = 0; what < 3; what++) {
                b.other(what, k, 0);
                Due.same("none is told apart", b.differ(), k);
                Due.yes("other(" + what + ", " + k + ", NONE)", b.other(what, k, NONE));
                Due.same("as the run's", b.differ(), NONE);
            }
        }
        WorkBoard b = new WorkBoard();
        b.card(0, false);
        Due.yes("NONE where none is told", b.other(2, 0, NONE));
        b.column(0, 0, 1, 2);
        Due.same("as the run's that come later", b.at(0, 0, true), 11);
        b.other(3, 0, NONE);
        b.pace(8);
        Due.same("as the run's that comes later", b.about(3), 8);
    }

    private static void otherRefused() {
        Due.sentence("9", "False for others.");
        int[] most = {20, 5, 20, 9};
        for (int what = 0; what < 4; what++) {
            int w = what;
            Boards.refused("other(" + w + ", 0, -2)", b -> b.other(w, 0, -2));
            Boards.refused("other(" + w + ", 0, " + (most[w] + 1) + ")", b -> b.other(w, 0, most[w] + 1));
            for (int v : FAR) {
                Boards.refused("other(" + w + ", 2, " + v + ")", b -> b.other(w, 2, v));
            }
        }
        Boards.refused("other(3, 0, 0)", b -> b.other(3, 0, 0));
    }

    private static void otherColumnRefused() {
        Due.sentence("9", "False for others.");
        for (int what = 0; what < 3; what++) {
            int w = what;
            Boards.refused("other(" + w + ", -1, 0)", b -> b.other(w, -1, 0));
            Boards.refused("other(" + w + ", n, 0)", b -> b.other(w, 3, 0));
            Boards.refused("other(" + w + ", n, NONE)", b -> b.other(w, 3, NONE));
            for (int k : FAR) {
                Boards.refused("other(" + w + ", " + k + ", 0)", b -> b.other(w, k, 0));
                Boards.refused("other(" + w + ", " + k + ", NONE)", b -> b.other(w, k, NONE));
            }
        }
    }

    private static void otherWhatRefused() {
        Due.sentence("9", "False for others.");
        Boards.refused("what -1", b -> b.other(-1, 0, 1));
        Boards.refused("what 4", b -> b.other(4, 0, 1));
        for (int what : FAR) {
            Boards.refused("what " + what, b -> b.other(what, 0, 1));
            Boards.refused("what " + what + ", NONE", b -> b.other(what, 0, NONE));
        }
    }

    private static void aboutTells() {
        Due.sentence("20", "0 COLUMNS, 1 CARDS, 2 PACE, 3 the other PACE (as it counts).");
        WorkBoard b = new WorkBoard();
        b.columns(4);
        b.pace(9);
        Boards.come(b, 16, 0, false);
        Due.same("about(0)", b.about(0), 4);
        Due.same("about(1)", b.about(1), 16);
        Due.same("about(2)", b.about(2), 9);
        Due.same("about(3), none told", b.about(3), 9);
        b.other(3, 0, 1);
        Due.same("about(3), told", b.about(3), 1);
        Due.same("about(2) stands", b.about(2), 9);
        b.other(3, 0, NONE);
        Due.same("about(3), as the run's again", b.about(3), 9);
    }

    private static void aboutRefused() {
        Due.sentence("20", "NONE for others.");
        WorkBoard b = Boards.rich();
        Due.same("about(-1)", b.about(-1), NONE);
        Due.same("about(4)", b.about(4), NONE);
        for (int what : FAR) {
            Due.same("about(" + what + ")", b.about(what), NONE);
        }
    }
}
