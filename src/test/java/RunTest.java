/** Promises 10 to 14: what a run tells, with the rules of pulls, work, reasons, length and jam. */
public final class RunTest {
    private static final int NONE = WorkBoard.NONE;
    private static final int[] FAR = {Integer.MIN_VALUE, -1000, -2, -1, 3001, Integer.MAX_VALUE};

    public static void main(String[] args) {
        pullsFromTheLastColumn();
        pullsInOrder();
        pullsManyByDay();
        throughCardsHoldTheirPlace();
        backFreesItsPlaceTheNextDay();
        backAmongThoseAhead();
        backGoesOnFromThere();
        backAtTheLastColumnOnce();
        urgentAreWorkedFirst();
        workedInOrderOfPulls();
        handsAndPaceBindTheUnits();
        sizeNoneNeedsNoHands();
        awaitedMustBeDoneTheDayAhead();
        reasons();
        reasonsBehindLength();
        reasonsOfAllDays();
        whereCardsAre();
        counts();
        lengthWaitsForTheLastCard();
        jams();
        sumOfAges();
        bothRunsAreTold();
        refused();
        fullBoard();
        longestRunEnds();
        Due.end("RunTest");
    }

    private static WorkBoard board(int columns, int limit, int lane, int hands) {
        WorkBoard b = new WorkBoard();
        b.columns(columns);
        for (int k = 0; k < columns; k++) {
            b.column(k, limit, lane, hands);
        }
        return b;
    }

    private static void pullsFromTheLastColumn() {
        WorkBoard b = board(3, 1, 0, 1);
        for (int i = 0; i < 4; i++) {
            b.card(0, false);
        }
        for (int c = 0; c < 4; c++) {
            Due.same("10 one behind the other", b.told(c, 0, false), c + 2);
            Due.same("10 AGE", b.told(c, 1, false), c + 3);
            Due.same("10 WORKED", b.told(c, 2, false), 3);
            Due.same("10 WAITING", b.told(c, 3, false), 0);
            Due.same("10 FULL", b.told(c, 4, false), c);
            Due.same("10 HANDS", b.told(c, 5, false), 0);
        }
    }

    private static void pullsInOrder() {
        WorkBoard b = board(1, 1, 1, 20);
        int late = b.card(2, false);
        int early = b.card(1, false);
        int same = b.card(1, false);
        int urgentLate = b.card(2, true);
        int urgent = b.card(1, true);
        Due.same("10 by day", b.told(early, 0, false), 1);
        Due.same("10 by number", b.told(same, 0, false), 2);
        Due.same("10 by day", b.told(late, 0, false), 3);
        Due.same("10 urgent by day", b.told(urgent, 0, false), 1);
        Due.same("10 urgent in a lane of their own", b.told(urgentLate, 0, false), 2);
        Due.same("10 AGE from the day of coming", b.told(late, 1, false), 2);
    }

    private static void pullsManyByDay() {
        WorkBoard b = board(1, 1, 0, 1);
        for (int c = 0; c < 16; c++) {
            b.card(15 - c, false);
            b.size(c, 0, 2);
        }
        for (int c = 0; c < 16; c++) {
            Due.same("10 by day: " + c, b.told(c, 0, false), 2 * (15 - c) + 1);
        }
        for (int c = 0; c < 16; c++) {
            b.size(c, 0, 0);
        }
        for (int c = 0; c < 16; c++) {
            Due.same("10 on its day: " + c, b.told(c, 0, false), 15 - c);
        }
    }

    private static void throughCardsHoldTheirPlace() {
        WorkBoard b = board(2, 1, 0, 2);
        b.card(0, false);
        b.card(0, false);
        b.card(0, false);
        b.size(0, 1, 3);
        Due.same("11 in column 1", b.at(0, 1, false), 1);
        Due.same("11 through in column 0", b.at(1, 1, false), 0);
        Due.same("11 still there", b.at(1, 3, false), 0);
        Due.same("11 kept out", b.at(2, 3, false), 11);
        Due.same("12 worked as it is through", b.reason(1, 1, false), 1);
        Due.same("12 full behind it", b.reason(1, 2, false), 3);
        Due.same("12 full ahead of column 0", b.reason(2, 2, false), 3);
        Due.same("10 DONE", b.told(1, 0, false), 4);
        Due.same("10 DONE", b.told(2, 0, false), 5);
    }

    private static void backFreesItsPlaceTheNextDay() {
        WorkBoard b = board(2, 1, 0, 2);
        b.card(0, false);
        b.card(0, false);
        b.back(0, 1, 0);
        Due.same("11 day 1", b.at(0, 1, false) * 100 + b.at(1, 1, false), 100);
        Due.same("11 each keeps the other out", b.at(0, 2, false) * 100 + b.at(1, 2, false), 100);
        Due.same("14 jam", b.length(1, false), 2);
        b.column(0, 2, 0, 2);
        Due.same("11 goes back", b.at(0, 2, false), 0);
        Due.same("11 column 1 was pulled ahead of that", b.at(1, 2, false), 0);
        Due.same("12 so it was full", b.reason(1, 2, false), 3);
        Due.same("11 then the one that came back is first by its number", b.at(1, 3, false), 0);
        Due.same("10 DONE", b.told(0, 0, false), 3);
        Due.same("10 DONE", b.told(1, 0, false), 4);
    }

    private static void backAmongThoseAhead() {
        WorkBoard b = board(2, 1, 0, 1);
        b.card(2, false);
        b.card(0, false);
        b.back(1, 1, 0);
        Due.same("11 first by its day, though it is in column 1", b.at(1, 2, false), 0);
        Due.same("11 and the one of the least number is ahead", b.at(0, 2, false), 11);
        Due.same("10 DONE", b.told(1, 0, false), 3);
        Due.same("10 DONE", b.told(0, 0, false), 4);
    }

    private static void backGoesOnFromThere() {
        WorkBoard b = board(4, 2, 0, 2);
        b.card(0, false);
        b.back(0, 2, 1);
        int[] places = {0, 1, 2, 1, 2, 10};
        b.size(0, 3, 0);
        for (int day = 0; day < 5; day++) {
            Due.same("11 on day " + day, b.at(0, day, false), places[day]);
        }
        Due.same("11 on day 5", b.at(0, 5, false), 10);
        b.size(0, 1, 2);
        Due.same("10 its size there once more", b.told(0, 0, false), 7);
    }

    private static void backAtTheLastColumnOnce() {
        WorkBoard b = board(2, 2, 1, 2);
        b.card(0, true);
        b.back(0, 1, 0);
        Due.same("11 through, not DONE", b.at(0, 1, false), 1);
        Due.same("11 back", b.at(0, 2, false), 0);
        Due.same("11 then DONE", b.at(0, 3, false), 10);
        Due.same("10 WORKED", b.told(0, 2, false), 4);
    }

    private static void urgentAreWorkedFirst() {
        WorkBoard b = board(1, 3, 2, 1);
        b.card(0, false);
        b.size(0, 0, 3);
        b.card(1, true);
        b.card(1, true);
        Due.same("12 the other is worked", b.reason(0, 0, false), 1);
        Due.same("12 the urgent one", b.reason(1, 1, false), 1);
        Due.same("12 the other urgent one", b.reason(2, 1, false), 4);
        Due.same("12 the other has no hands", b.reason(0, 1, false), 4);
        Due.same("10 DONE", b.told(1, 0, false), 1);
        Due.same("10 DONE", b.told(2, 0, false), 2);
        Due.same("10 DONE", b.told(0, 0, false), 4);
        Due.same("10 HANDS", b.told(0, 5, false), 2);
        Due.same("10 HANDS", b.told(2, 5, false), 1);
    }

    private static void workedInOrderOfPulls() {
        WorkBoard b = board(2, 3, 0, 1);
        b.column(0, 3, 0, 20);
        b.card(0, false);
        b.card(0, false);
        b.size(0, 0, 2);
        b.size(0, 1, 2);
        b.size(1, 1, 3);
        Due.same("12 the one that went in earlier", b.reason(1, 2, false), 1);
        Due.same("12 though the other is first by number", b.reason(0, 2, false), 4);
        Due.same("10 DONE", b.told(1, 0, false), 3);
        Due.same("10 DONE", b.told(0, 0, false), 5);
        WorkBoard again = board(2, 3, 0, 1);
        again.card(0, false);
        again.card(2, false);
        again.back(0, 1, 0);
        again.size(1, 0, 2);
        Due.same("11 the one that came back went in with the other", again.at(0, 2, false), 0);
        Due.same("12 and was pulled first, by its day", again.reason(0, 2, false), 1);
        again.size(0, 1, 2);
        Due.same("12 now it came back later", again.reason(0, 3, false), 4);
        Due.same("12 than the one that is there", again.reason(1, 3, false), 1);
    }

    private static void handsAndPaceBindTheUnits() {
        WorkBoard b = board(1, 3, 0, 5);
        b.pace(3);
        for (int c = 0; c < 3; c++) {
            b.card(0, false);
            b.size(c, 0, 4);
        }
        Due.same("12 three units", b.reason(0, 0, false), 1);
        Due.same("12 two units", b.reason(1, 0, false), 1);
        Due.same("12 no unit", b.reason(2, 0, false), 4);
        Due.same("10 DONE with the fourth", b.told(0, 0, false), 1);
        Due.same("10 DONE with two and two", b.told(1, 0, false), 1);
        Due.same("10 two units on day 1, so two on day 2", b.told(2, 0, false), 2);
        Due.same("10 HANDS", b.told(2, 5, false), 1);
    }

    private static void sizeNoneNeedsNoHands() {
        WorkBoard b = board(2, 1, 0, 0);
        b.card(0, false);
        b.size(0, 0, 0);
        b.size(0, 1, 0);
        Due.same("11 a day in each column", b.at(0, 0, false), 0);
        Due.same("11 then DONE", b.at(0, 1, false), 10);
        Due.same("12 through is worked", b.reason(0, 0, false), 1);
        Due.same("10 WORKED", b.told(0, 2, false), 2);
        b.back(0, 1, 0);
        Due.same("10 with its BACK", b.told(0, 0, false), 3);
    }

    private static void awaitedMustBeDoneTheDayAhead() {
        WorkBoard b = board(1, 20, 5, 20);
        b.card(3, false);
        b.card(0, true);
        b.waits(1, 0);
        for (int day = 0; day < 4; day++) {
            Due.same("12 WAITING on day " + day, b.reason(1, day, false), 2);
        }
        Due.same("11 goes in", b.at(1, 4, false), 10);
        Due.same("10 WAITING", b.told(1, 3, false), 4);
        b.column(0, 0, 5, 20);
        Due.same("12 for ever", b.reason(1, 3000, false), 2);
        Due.same("14 LENGTH", b.length(0, false), 3);
        Due.same("14 JAM", b.length(1, false), 0);
    }

    private static void reasons() {
        WorkBoard b = board(1, 2, 0, 1);
        for (int i = 0; i < 3; i++) {
            b.card(1, false);
        }
        b.card(1, true);
        b.waits(1, 0);
        b.size(0, 0, 2);
        Due.same("12 not come", b.reason(0, 0, false), NONE);
        Due.same("12 WORKED", b.reason(0, 1, false), 1);
        Due.same("12 WAITING", b.reason(1, 1, false), 2);
        Due.same("12 HANDS", b.reason(2, 1, false), 4);
        Due.same("12 FULL: a lane of 0", b.reason(3, 1, false), 3);
        Due.same("12 WORKED as it is DONE", b.reason(0, 2, false), 1);
        Due.same("12 WAITING on that day, too", b.reason(1, 2, false), 2);
        Due.same("12 DONE", b.reason(0, 3, false), NONE);
        Due.same("12 waiting is over", b.reason(1, 3, false), 4);
        Due.same("12 goes on", b.reason(2, 3, false), 1);
        Due.same("12 looked at from behind", b.reason(0, 1, false), 1);
    }

    private static void reasonsBehindLength() {
        WorkBoard b = board(2, 1, 0, 1);
        for (int i = 0; i < 4; i++) {
            b.card(0, false);
        }
        b.column(1, 1, 0, 0);
        b.waits(3, 2);
        int length = b.length(0, false);
        Due.same("14 LENGTH", length, 2);
        int[] days = {length, length + 1, 100, 3000};
        for (int day : days) {
            Due.same("12 HANDS", b.reason(0, day, false), 4);
            Due.same("12 FULL, through", b.reason(1, day, false), 3);
            Due.same("12 FULL, ahead", b.reason(2, day, false), 3);
            Due.same("12 WAITING", b.reason(3, day, false), 2);
            Due.same("11 at", b.at(0, day, false), 1);
            Due.same("11 at", b.at(1, day, false), 0);
            Due.same("11 at", b.at(3, day, false), 11);
        }
        Due.same("10 days ahead of LENGTH alone", b.told(2, 4, false), 2);
        Due.same("10 days ahead of LENGTH alone", b.told(3, 3, false), 2);
        Due.same("10 days ahead of LENGTH alone", b.told(0, 5, false), 1);
        Due.same("10 days ahead of LENGTH alone", b.told(1, 4, false), 1);
    }

    private static void reasonsOfAllDays() {
        WorkBoard b = board(2, 2, 1, 1);
        for (int c = 0; c < 8; c++) {
            b.card(c / 2, c % 3 == 0);
            b.size(c, 0, c % 4);
            b.size(c, 1, 3 - c % 3);
        }
        b.waits(5, 2);
        b.back(4, 1, 0);
        int length = b.length(0, false);
        for (int c = 0; c < 8; c++) {
            int[] days = new int[5];
            for (int day = 0; day < length; day++) {
                int reason = b.reason(c, day, false);
                days[reason == NONE ? 0 : reason]++;
            }
            for (int reason = 1; reason <= 4; reason++) {
                Due.same("10 days by reason " + reason, b.told(c, reason + 1, false), days[reason]);
            }
            Due.same("10 AGE is all of them", b.told(c, 1, false), length - days[0]);
        }
    }

    private static void whereCardsAre() {
        WorkBoard b = board(2, 3, 1, 2);
        b.card(2, false);
        Due.same("11 not come", b.at(0, 1, false), NONE);
        Due.same("11 column 0", b.at(0, 2, false), 0);
        Due.same("11 DONE", b.at(0, 3, false), 10);
        Due.same("11 DONE", b.at(0, 3000, false), 10);
        Due.same("11 column 0", b.at(0, 2, false), 0);
        b.column(0, 0, 0, 2);
        Due.same("11 not come", b.at(0, 1, false), NONE);
        Due.same("11 ahead", b.at(0, 2, false), 11);
        Due.same("11 ahead", b.at(0, 3000, false), 11);
    }

    private static void counts() {
        WorkBoard b = board(2, 1, 1, 1);
        b.card(0, false);
        b.card(1, true);
        b.card(1, false);
        b.card(1, false);
        Due.same("13 come on day 0", b.counts(0, 0, false), 1);
        Due.same("13 come on day 1", b.counts(1, 0, false), 4);
        Due.same("13 DONE on day 0", b.counts(0, 1, false), 0);
        Due.same("13 DONE on day 1", b.counts(1, 1, false), 1);
        Due.same("13 there at the end of day 1", b.counts(1, 2, false), 3);
        Due.same("13 there on day 1", b.counts(1, 3, false), 4);
        Due.same("13 there on day 2", b.counts(2, 3, false), 3);
        Due.same("13 in column 0, through or not", b.counts(1, 10, false), 2);
        Due.same("13 in column 1", b.counts(1, 11, false), 0);
        Due.same("13 in column 1 the day ahead", b.counts(0, 11, false), 0);
        Due.same("13 in column 1 on day 2: the urgent one was DONE", b.counts(2, 11, false), 0);
        Due.same("13 DONE on day 2", b.counts(2, 1, false), 2);
        Due.same("13 all DONE", b.counts(3000, 1, false), 4);
        Due.same("13 none there", b.counts(3000, 2, false), 0);
        Due.same("13 none there", b.counts(3000, 3, false), 0);
        Due.same("13 all come", b.counts(3000, 0, false), 4);
        Due.same("13 no column 2", b.counts(1, 12, false), NONE);
        Due.same("13 what 4", b.counts(1, 4, false), NONE);
        Due.same("13 what 9", b.counts(1, 9, false), NONE);
        Due.same("13 what -1", b.counts(1, -1, false), NONE);
        b.column(1, 1, 1, 0);
        Due.same("13 held in column 1", b.counts(3000, 11, false), 2);
        Due.same("13 held in column 0", b.counts(3000, 10, false), 1);
        Due.same("13 still there", b.counts(3000, 3, false), 4);
    }

    private static void lengthWaitsForTheLastCard() {
        WorkBoard b = board(1, 3, 1, 2);
        b.card(0, false);
        Due.same("14 LENGTH", b.length(0, false), 1);
        b.card(50, false);
        Due.same("14 LENGTH", b.length(0, false), 51);
        b.card(99, true);
        b.column(0, 3, 0, 2);
        Due.same("14 LENGTH is the last day of coming", b.length(0, false), 99);
        Due.same("14 JAM is ahead of it", b.length(1, false), 51);
        Due.same("10 no days at LENGTH", b.told(2, 4, false), 0);
        Due.same("12 but a reason", b.reason(2, 99, false), 3);
    }

    private static void jams() {
        WorkBoard b = board(2, 1, 0, 1);
        b.card(4, false);
        Due.same("14 no JAM", b.length(1, false), NONE);
        b.column(1, 0, 0, 1);
        Due.same("14 JAM behind the last work", b.length(1, false), 5);
        Due.same("14 no sum", b.length(2, false), NONE);
        b.column(0, 1, 0, 0);
        Due.same("14 JAM behind the pull", b.length(1, false), 5);
        Due.same("14 LENGTH", b.length(0, false), 5);
        b.column(0, 0, 0, 0);
        Due.same("14 JAM from the first day on", b.length(1, false), 0);
        Due.same("14 LENGTH", b.length(0, false), 4);
    }

    private static void sumOfAges() {
        WorkBoard b = board(1, 1, 0, 1);
        b.card(0, false);
        b.card(0, false);
        b.card(7, false);
        Due.same("14 sum", b.length(2, false), 1 + 2 + 1);
        b.size(1, 0, 9);
        Due.same("14 sum", b.length(2, false), 1 + 10 + 4);
        b.card(7, true);
        Due.same("14 not all DONE", b.length(2, false), NONE);
        Due.same("10 not DONE", b.told(3, 0, false), NONE);
        Due.same("10 no AGE", b.told(3, 1, false), NONE);
        Due.same("10 the others are DONE", b.told(1, 0, false), 9);
    }

    private static void bothRunsAreTold() {
        WorkBoard b = board(1, 3, 1, 1);
        b.card(0, false);
        b.card(0, false);
        b.other(2, 0, 2);
        Due.same("10 run", b.told(1, 0, false), 1);
        Due.same("10 other", b.told(1, 0, true), 0);
        Due.same("11 run", b.at(1, 0, false), 0);
        Due.same("11 other", b.at(1, 0, true), 10);
        Due.same("12 run", b.reason(1, 0, false), 4);
        Due.same("12 other", b.reason(1, 0, true), 1);
        Due.same("13 run", b.counts(0, 1, false), 1);
        Due.same("13 other", b.counts(0, 1, true), 2);
        Due.same("14 run", b.length(0, false), 2);
        Due.same("14 other", b.length(0, true), 1);
    }

    private static void refused() {
        WorkBoard b = board(2, 3, 1, 2);
        b.card(0, false);
        for (int v : FAR) {
            Due.same("10 c " + v, b.told(v, 0, false), NONE);
            Due.same("10 what " + v, b.told(0, v, false), NONE);
            Due.same("11 c " + v, b.at(v, 0, false), NONE);
            Due.same("11 day " + v, b.at(0, v, true), NONE);
            Due.same("12 c " + v, b.reason(v, 0, true), NONE);
            Due.same("12 day " + v, b.reason(0, v, false), NONE);
            Due.same("13 day " + v, b.counts(v, 0, false), NONE);
            Due.same("13 what " + v, b.counts(0, v, false), NONE);
            Due.same("14 what " + v, b.length(v, true), NONE);
        }
        Due.same("10 c 1", b.told(1, 0, false), NONE);
        Due.same("10 what 6", b.told(0, 6, false), NONE);
        Due.same("11 c 1", b.at(1, 0, false), NONE);
        Due.same("12 c 1", b.reason(1, 0, false), NONE);
        Due.same("14 what 3", b.length(3, false), NONE);
        Due.same("13 day 3000", b.counts(3000, 0, false), 1);
    }

    private static void fullBoard() {
        WorkBoard b = board(1, 1, 0, 1);
        for (int c = 0; c < 16; c++) {
            b.card(0, false);
        }
        Due.same("14 sum", b.length(2, false), 16 * 17 / 2);
        Due.same("13 DONE", b.counts(15, 1, false), 16);
        Due.same("13 there on it", b.counts(15, 3, false), 1);
        Due.same("13 there behind it", b.counts(0, 2, false), 15);
        Due.same("13 in column 0", b.counts(0, 10, false), 0);
        Due.same("12 FULL", b.reason(15, 14, false), 3);
        Due.same("12 WORKED", b.reason(15, 15, false), 1);
        Due.same("16 the oldest", b.promise(100, false), 16);
        Due.same("16 half of them", b.promise(50, false), 8);
        Due.same("17 hands bind", b.best(2), 16 * 17 / 2);
        Due.same("18 so one is enough", b.bestLimit(2, 0), 1);
        Due.same("19 nobody is urgent", b.cost(), 0);
        Due.same("15 never", b.differ(), NONE);
        b.other(0, 0, 2);
        Due.same("15 two go in", b.differ(), 0);
    }

    /** The most work that the document allows: a run is at rest long before day 3000. */
    private static void longestRunEnds() {
        WorkBoard b = board(4, 1, 1, 1);
        for (int c = 0; c < 16; c++) {
            b.card(99, false);
            for (int k = 0; k < 4; k++) {
                b.size(c, k, k == 3 ? 9 : 0);
            }
            b.waits(c, c - 1);
        }
        Due.same("14 all DONE", b.length(1, false), NONE);
        Due.same("14 one behind the other", b.length(0, false), 99 + 16 * 12);
        for (int c = 0; c < 16; c++) {
            for (int k = 0; k < 4; k++) {
                b.size(c, k, 9);
            }
            b.back(c, 3, 0);
        }
        Due.same("14 all DONE", b.length(1, false), NONE);
        Due.same("14 one behind the other, twice each", b.length(0, false), 99 + 16 * 72);
    }
}
