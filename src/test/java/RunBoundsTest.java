/** Terms II, promises 10 to 14: each sentence that names a boundary case has a test of its own. */
public final class RunBoundsTest {
    private static final int NONE = Boards.NONE;
    private static final int[] FAR = Boards.FAR;
    private static final int[] FAR_DAYS = Boards.FAR_DAYS;

    public static void main(String[] args) {
        cardsOfThatDayCome();
        pullsFromTheLastToTheFirst();
        pulledOnceADay();
        dontWaitForOneNotDoneAhead();
        doneOfThoseWaitedForOnly();
        waitingLetsOthersBy();
        waitingIsAheadOfColumn0Only();
        throughWhereTheyAre();
        fewerThanItsLane();
        fewerThanItsLimit();
        laneAndLimitApart();
        urgentOnesFirst();
        thenByTheDayOfComing();
        thenByTheDayOfComingToldAtRandom();
        thenByNumbers();
        againUntilThereIsNone();
        withItsSizeThere();
        handsUnits();
        handsOfEachColumn();
        handsOfTheDayOnly();
        urgentOnesAreWorkedFirst();
        earlierOnesAreWorkedFirst();
        asAreLeftToBeWorked();
        asAreLeftOfTheHands();
        asPaceSays();
        sizeNoneIsThrough();
        throughAtRForTheFirstTime();
        doneIfThatWasTheLastColumn();
        nextColumnIsTheNextOne();
        doneOnesArentInTheColumn();
        throughOnesAreInTheColumn();
        reasonOfOneThatHasCome();
        reasonWorked();
        reasonWaiting();
        reasonFullAhead();
        reasonFullThrough();
        reasonHands();
        lengthNotAheadOfTheLast();
        lengthFirstDayOfNothing();
        lengthPulledOnly();
        lengthWithoutCards();
        lengthOfTheLongestRun();
        ageBothOfThem();
        jamNone();
        jamBehindTheLastOne();
        jamZero();
        toldDone();
        toldDaysByReason();
        toldOtherRun();
        toldRefused();
        atTheEndOfADay();
        atDays0To3000();
        atHasntCome();
        atRefused();
        reasonDays0To3000();
        reasonBehindLength();
        reasonWithoutOne();
        reasonRefused();
        countsCome();
        countsDone();
        countsThere();
        countsInColumn();
        countsThereOnThatDay();
        countsDays0To3000();
        countsRefused();
        countsEmptyAndFull();
        lengthSum();
        lengthRefused();
        askedInAnyOrder();
        Due.end("RunBoundsTest");
    }

    private static void cardsOfThatDayCome() {
        Due.sentence("II", "CARDS of that DAY come: they are ahead of COLUMN 0.");
        WorkBoard b = Boards.of(1, 0, 0, 20);
        int[] days = {0, 1, 1, 98, 99, 99};
        for (int day : days) {
            b.card(day, day == 1);
        }
        for (int c = 0; c < days.length; c++) {
            Due.same("ahead of its day", days[c] == 0 ? NONE : b.at(c, days[c] - 1, false), NONE);
            Due.same("on its day", b.at(c, days[c], false), 11);
            Due.same("on the last day", b.at(c, 99, false), 11);
        }
    }

    /** A full row moves on as one: the place that is left is taken on the same day. */
    private static void pullsFromTheLastToTheFirst() {
        Due.sentence("II", "PULLS: COLUMN by COLUMN, from the last to the first");
        WorkBoard b = Boards.of(4, 1, 0, 1);
        Boards.come(b, 5, 0, false);
        int[] places = {0, 1, 2, 10};
        for (int day = 0; day < 8; day++) {
            for (int c = 0; c < 5; c++) {
                int want = c > day ? 11 : places[Math.min(day - c, 3)];
                Due.same(c + " on day " + day, b.at(c, day, false), want);
            }
        }
    }

    private static void pulledOnceADay() {
        Due.sentence("II", "from the last to the first: of the CARDS whose NEXT COLUMN it is");
        WorkBoard b = Boards.of(4, 20, 5, 20);
        b.card(0, false);
        for (int k = 0; k < 4; k++) {
            b.size(0, k, 0);
        }
        for (int k = 0; k < 3; k++) {
            Due.same("not two columns on a day", b.at(0, k, false), k);
        }
        Due.same("AGE", b.told(0, 1, false), 4);
    }

    private static void dontWaitForOneNotDoneAhead() {
        Due.sentence("II", "those ahead of COLUMN 0 that don't WAIT for one that wasn't DONE ahead of that DAY");
        WorkBoard b = Boards.of(1, 20, 5, 20);
        b.card(0, false);
        b.card(0, false);
        b.card(1, false);
        b.waits(1, 0);
        b.waits(2, 0);
        Due.same("DONE on that day isn't ahead of it", b.at(1, 0, false), 11);
        Due.same("DONE on the day ahead is", b.told(1, 0, false), 1);
        Due.same("DONE ahead of the coming is no wait", b.told(2, 0, false), 1);
        Due.same("no day of WAITING", b.told(2, 3, false), 0);
        b.size(0, 0, 2);
        Due.same("DONE on the day of coming is", b.told(2, 0, false), 2);
        Due.same("a day of WAITING", b.told(2, 3, false), 1);
    }

    private static void doneOfThoseWaitedForOnly() {
        Due.sentence("II", "those ahead of COLUMN 0 that don't WAIT for one that wasn't DONE ahead of that DAY");
        WorkBoard b = Boards.of(2, 20, 5, 20);
        b.card(99, false);
        b.card(0, false);
        b.waits(1, 0);
        Due.same("one that hasn't come isn't DONE", b.at(1, 98, false), 11);
        Due.same("nor one that is through", b.at(1, 100, false), 11);
        Due.same("nor one DONE on that day", b.reason(1, 100, false), 2);
        Due.same("it goes in then", b.at(1, 101, false), 0);
        Due.same("AGE", b.told(1, 1, false), 103);
        b.column(1, 0, 0, 20);
        Due.same("for ever", b.at(1, 3000, false), 11);
    }

    /** Neither an urgent one nor one of an earlier day keeps others back while it waits. */
    private static void waitingLetsOthersBy() {
        Due.sentence("II", "and that may");
        WorkBoard b = Boards.of(1, 1, 1, 20);
        b.card(1, false);
        b.card(0, true);
        b.card(0, false);
        b.waits(1, 0);
        b.waits(2, 0);
        b.card(1, true);
        b.card(1, false);
        Due.same("the urgent one behind it goes in", b.told(3, 0, false), 1);
        Due.same("the first one is DONE", b.told(0, 0, false), 1);
        Due.same("then the urgent one that waited", b.told(1, 0, false), 2);
        Due.same("then the one of the earlier day", b.told(2, 0, false), 2);
        Due.same("then the one of the later day", b.told(4, 0, false), 3);
    }

    private static void waitingIsAheadOfColumn0Only() {
        Due.sentence("II", "those ahead of COLUMN 0 that don't WAIT ..; those that are through where they are");
        WorkBoard b = Boards.of(2, 20, 5, 20);
        Boards.come(b, 2, 0, false);
        b.size(0, 1, 9);
        b.back(1, 1, 0);
        Due.same("without WAITS", b.told(1, 1, false), 4);
        b.waits(1, 0);
        Due.same("it waits once", b.told(1, 0, false), 13);
        Due.same("ten days of WAITING", b.told(1, 3, false), 10);
        Due.same("no FULL", b.told(1, 4, false), 0);
    }

    private static void throughWhereTheyAre() {
        Due.sentence("II", "those that are through where they are");
        WorkBoard b = Boards.of(2, 20, 5, 1);
        b.card(0, false);
        b.size(0, 0, 2);
        Due.same("a unit is left", b.at(0, 1, false), 0);
        Due.same("none is left", b.at(0, 2, false), 10);
    }

    private static void fewerThanItsLane() {
        Due.sentence("II", "URGENT ones if the URGENT ones in it are fewer than its LANE");
        for (int lane = 0; lane <= 5; lane++) {
            WorkBoard b = Boards.of(1, 20, lane, 0);
            Boards.come(b, 6, 0, true);
            for (int c = 0; c < 6; c++) {
                Due.same("lane " + lane + ", card " + c, b.at(c, 0, false), c < lane ? 0 : 11);
            }
        }
    }

    private static void fewerThanItsLimit() {
        Due.sentence("II", "others if the others in it are fewer than its LIMIT");
        for (int limit = 0; limit <= 16; limit++) {
            WorkBoard b = Boards.of(1, limit, 5, 0);
            Boards.come(b, 16, 0, false);
            for (int c = 0; c < 16; c++) {
                Due.same("limit " + limit + ", card " + c, b.at(c, 0, false), c < limit ? 0 : 11);
            }
        }
    }

    private static void laneAndLimitApart() {
        Due.sentence("II", "the URGENT ones in it .. the others in it");
        WorkBoard b = Boards.of(1, 1, 1, 0);
        b.card(0, true);
        b.card(1, false);
        b.card(2, true);
        b.card(2, false);
        Due.same("an urgent one takes no place of the others", b.at(1, 1, false), 0);
        Due.same("the lane is full", b.at(2, 2, false), 11);
        Due.same("the limit is full", b.at(3, 2, false), 11);
        b.column(0, 0, 1, 0);
        Due.same("the lane without a limit", b.counts(2, 10, false), 1);
        b.column(0, 1, 0, 0);
        Due.same("the limit without a lane", b.counts(2, 10, false), 1);
        Due.same("urgent ones don't take the others' places", b.at(0, 2, false), 11);
    }

    private static void urgentOnesFirst() {
        Due.sentence("II", "URGENT ones first");
        WorkBoard b = Boards.of(1, 1, 1, 1);
        b.pace(1);
        b.card(0, false);
        b.card(0, true);
        Due.same("worked first, as it went in first", b.told(1, 0, false), 0);
        Due.same("then the other", b.told(0, 0, false), 1);
    }

    private static void thenByTheDayOfComing() {
        Due.sentence("II", "then by the DAY of coming");
        WorkBoard b = Boards.of(1, 1, 1, 20);
        int[] days = {3, 2, 1, 0, 3, 2, 1, 0};
        for (int c = 0; c < 8; c++) {
            b.card(days[c], c > 3);
            b.size(c, 0, 4);
        }
        for (int c = 0; c < 8; c++) {
            Due.same("card " + c, b.told(c, 0, false), days[c] * 4 + 3);
        }
    }

    private static void thenByTheDayOfComingToldAtRandom() {
        Due.sentence("II", "then by the DAY of coming");
        WorkBoard b = Boards.of(1, 1, 0, 20);
        int[] days = {2, 7, 0, 5, 1, 6, 3, 4, 9, 8};
        for (int c = 0; c < days.length; c++) {
            b.card(days[c], false);
            b.size(c, 0, 2);
        }
        for (int c = 0; c < days.length; c++) {
            Due.same("card " + c, b.told(c, 0, false), days[c] * 2 + 1);
        }
    }

    private static void thenByNumbers() {
        Due.sentence("II", "then by numbers");
        WorkBoard b = Boards.of(1, 1, 1, 20);
        for (int c = 0; c < 16; c++) {
            b.card(5, c % 2 == 1);
        }
        for (int c = 0; c < 16; c++) {
            Due.same("card " + c, b.told(c, 0, false), 5 + c / 2);
        }
    }

    private static void againUntilThereIsNone() {
        Due.sentence("II", "again, until there is none");
        WorkBoard b = Boards.of(2, 20, 5, 20);
        Boards.come(b, 11, 4, false);
        Boards.come(b, 5, 4, true);
        Due.same("all go in on a day", b.counts(4, 10, false), 16);
        Due.same("and on", b.counts(5, 1, false), 16);
        b.column(1, 20, 4, 20);
        Due.same("all but one", b.counts(5, 1, false), 15);
    }

    private static void withItsSizeThere() {
        Due.sentence("II", "goes in, with its SIZE there to be worked");
        WorkBoard b = Boards.of(3, 20, 5, 20);
        b.card(0, false);
        b.size(0, 0, 2);
        b.size(0, 1, 9);
        b.size(0, 2, 4);
        Due.same("each its own", b.at(0, 1, false) * 100 + b.at(0, 10, false) * 10 + b.at(0, 11, false), 12);
        Due.same("AGE", b.told(0, 1, false), 15);
        b.back(0, 2, 1);
        Due.same("once more as much", b.told(0, 1, false), 28);
    }

    private static void handsUnits() {
        Due.sentence("II", "WORK: COLUMN by COLUMN from the first on, HANDS units");
        for (int hands = 0; hands <= 20; hands++) {
            WorkBoard b = Boards.of(1, 20, 0, hands);
            Boards.come(b, 16, 0, false);
            int worked = 0;
            for (int c = 0; c < 16; c++) {
                worked += b.reason(c, 0, false) == 1 ? 1 : 0;
            }
            Due.same("hands " + hands, worked, Math.min(hands, 16));
        }
    }

    private static void handsOfEachColumn() {
        Due.sentence("II", "WORK: COLUMN by COLUMN from the first on, HANDS units");
        WorkBoard b = Boards.of(2, 20, 0, 1);
        b.card(0, false);
        b.card(1, false);
        Due.same("a unit in column 0", b.reason(1, 1, false), 1);
        Due.same("and one in column 1", b.reason(0, 1, false), 1);
        b.column(0, 20, 0, 20);
        b.column(1, 20, 0, 0);
        Due.same("hands of column 0 don't work in column 1", b.reason(0, 1, false), 4);
    }

    private static void handsOfTheDayOnly() {
        Due.sentence("II", "HANDS units");
        WorkBoard b = Boards.of(1, 20, 0, 2);
        b.card(0, false);
        b.card(1, false);
        b.size(1, 0, 9);
        b.pace(9);
        Due.same("what was left on day 0 is gone on day 1", b.told(1, 1, false), 5);
    }

    private static void urgentOnesAreWorkedFirst() {
        Due.sentence("II", "of its CARDS that aren't through the URGENT ones first");
        WorkBoard b = Boards.of(1, 20, 5, 1);
        b.card(0, false);
        b.size(0, 0, 2);
        b.card(1, true);
        b.card(1, false);
        Due.same("the one that is there", b.reason(0, 0, false), 1);
        Due.same("the urgent one that came", b.reason(1, 1, false), 1);
        Due.same("not the one that was there", b.reason(0, 1, false), 4);
        Due.same("then it is", b.reason(0, 2, false), 1);
        Due.same("the last one", b.told(2, 0, false), 3);
    }

    /** By their pulls: neither by numbers nor by the day of coming, nor by an earlier stay in the column. */
    private static void earlierOnesAreWorkedFirst() {
        Due.sentence("II", "then those that went in earlier (by PULLS)");
        WorkBoard b = Boards.of(2, 20, 0, 20);
        b.column(1, 20, 0, 1);
        Boards.come(b, 2, 0, false);
        b.size(0, 0, 2);
        b.size(1, 1, 2);
        Due.same("1 went in a day ahead of 0", b.reason(1, 2, false), 1);
        Due.same("0 has no unit", b.reason(0, 2, false), 4);
        b.size(0, 0, 1);
        Due.same("both on one day: 0 was pulled first", b.reason(0, 1, false), 1);
        Due.same("1 has no unit", b.reason(1, 1, false), 4);
        WorkBoard back = Boards.of(2, 20, 0, 20);
        back.card(0, false);
        back.card(1, false);
        back.back(0, 1, 0);
        back.size(1, 0, 4);
        back.size(0, 0, 2);
        back.pace(1);
        back.column(0, 20, 0, 1);
        Due.same("0 was worked ahead of 1", back.reason(0, 1, false), 1);
        Due.same("0 has gone back behind 1", back.at(0, 3, false), 0);
        Due.same("1 is worked ahead of 0", back.reason(1, 3, false), 1);
        Due.same("0 has no unit", back.reason(0, 3, false), 4);
    }

    private static void asAreLeftToBeWorked() {
        Due.sentence("II", "each as many units as are left for it to be worked");
        WorkBoard b = Boards.of(1, 20, 0, 9);
        b.pace(9);
        Boards.come(b, 3, 0, false);
        b.size(0, 0, 4);
        b.size(1, 0, 4);
        b.size(2, 0, 2);
        Due.same("four, four, and one is left for the third", b.counts(0, 1, false), 2);
        Due.same("the third had a unit", b.reason(2, 0, false), 1);
        Due.same("one was left", b.told(2, 0, false), 1);
    }

    private static void asAreLeftOfTheHands() {
        Due.sentence("II", "as are left");
        WorkBoard b = Boards.of(1, 20, 0, 4);
        b.pace(9);
        Boards.come(b, 2, 0, false);
        b.size(0, 0, 3);
        b.size(1, 0, 6);
        Due.same("three of four", b.told(0, 0, false), 0);
        Due.same("one, four, one", b.told(1, 0, false), 2);
        b.size(1, 0, 5);
        Due.same("one, four", b.told(1, 0, false), 1);
    }

    private static void asPaceSays() {
        Due.sentence("II", "as PACE says, at the most");
        WorkBoard b = Boards.of(1, 20, 0, 20);
        b.card(0, false);
        b.size(0, 0, 6);
        b.pace(5);
        Due.same("five, one", b.told(0, 0, false), 1);
        b.pace(6);
        Due.same("six", b.told(0, 0, false), 0);
        b.pace(1);
        Due.same("one each", b.told(0, 0, false), 5);
    }

    private static void sizeNoneIsThrough() {
        Due.sentence("II", "A CARD without a unit left to be worked is through (also one of SIZE 0)");
        WorkBoard b = Boards.of(2, 20, 0, 0);
        b.card(0, false);
        b.size(0, 0, 0);
        Due.same("without hands", b.at(0, 0, false), 0);
        Due.same("through on the first day", b.at(0, 1, false), 1);
        Due.same("with SIZE 1 it isn't", b.at(0, 3000, false), 1);
        b.size(0, 1, 0);
        Due.same("DONE", b.told(0, 0, false), 1);
        b.column(0, 20, 0, 1);
        b.card(0, false);
        Due.same("it takes no hands of another", b.reason(1, 0, false), 1);
    }

    private static void throughAtRForTheFirstTime() {
        Due.sentence("II", "if it is r of its BACK for the first time its NEXT COLUMN is q");
        WorkBoard b = Boards.of(2, 1, 0, 1);
        b.card(0, false);
        b.back(0, 1, 0);
        Due.same("not DONE in the last column", b.at(0, 1, false), 1);
        Due.same("q on the next day", b.at(0, 2, false), 0);
        Due.same("DONE the second time", b.at(0, 3, false), 10);
        b.column(0, 20, 0, 1);
        b.card(2, false);
        b.size(1, 0, 0);
        b.size(0, 0, 2);
        Due.same("it stands in q", b.at(0, 3, false), 0);
        Due.same("with its size there", b.at(0, 4, false), 0);
        Due.same("then r again", b.told(0, 0, false), 5);
    }

    private static void doneIfThatWasTheLastColumn() {
        Due.sentence("II", "else it is DONE, if that was the last COLUMN");
        for (int n = 1; n <= 4; n++) {
            WorkBoard b = Boards.of(n, 20, 0, 20);
            b.card(3, false);
            Due.same("by " + n + " columns, the day ahead", b.at(0, n + 1, false), n == 1 ? NONE : n - 2);
            Due.same("by " + n + " columns", b.at(0, n + 2, false), 10);
            Due.same("by " + n + " columns", b.told(0, 0, false), n + 2);
        }
    }

    private static void nextColumnIsTheNextOne() {
        Due.sentence("II", "else its NEXT COLUMN is the next one");
        WorkBoard b = Boards.of(4, 20, 0, 20);
        b.card(0, false);
        b.back(0, 3, 2);
        int[] places = {0, 1, 2, 3, 2, 10};
        for (int day = 0; day < 6; day++) {
            Due.same("day " + day, b.at(0, day, false), places[day]);
        }
    }

    private static void doneOnesArentInTheColumn() {
        Due.sentence("II", "(DONE ones aren't in the COLUMN any more.)");
        WorkBoard b = Boards.of(1, 1, 1, 20);
        Boards.come(b, 2, 0, false);
        Boards.come(b, 2, 0, true);
        Due.same("at the end of the day none is in it", b.counts(0, 10, false), 0);
        Due.same("two are DONE", b.counts(0, 1, false), 2);
        Due.same("their places are not free on that day", b.counts(0, 2, false), 2);
        Due.same("they are on the next one", b.counts(1, 1, false), 4);
    }

    private static void throughOnesAreInTheColumn() {
        Due.sentence("II", "the others in it are fewer than its LIMIT");
        WorkBoard b = Boards.of(2, 1, 1, 20);
        b.column(1, 0, 0, 20);
        Boards.come(b, 2, 0, false);
        Boards.come(b, 2, 0, true);
        Due.same("through ones are in it", b.counts(3000, 10, false), 2);
        Due.same("and keep others out", b.at(1, 3000, false), 11);
        Due.same("urgent ones, too", b.at(3, 3000, false), 11);
    }

    private static void reasonOfOneThatHasCome() {
        Due.sentence("II", "REASONS of a DAY, of a CARD that has come and wasn't DONE ahead of it");
        WorkBoard b = Boards.of(1, 20, 0, 20);
        b.card(5, false);
        Due.same("ahead of its coming", b.reason(0, 4, false), NONE);
        Due.same("it came and was DONE", b.reason(0, 5, false), 1);
        Due.same("DONE ahead of it", b.reason(0, 6, false), NONE);
        Due.same("DONE long ahead of it", b.reason(0, 3000, false), NONE);
    }

    private static void reasonWorked() {
        Due.sentence("II", "1 WORKED: it had a unit, or became through");
        WorkBoard b = Boards.of(2, 20, 0, 1);
        b.card(0, false);
        b.size(0, 0, 2);
        b.size(0, 1, 0);
        Due.same("a unit, not through", b.reason(0, 0, false), 1);
        Due.same("the last unit", b.reason(0, 1, false), 1);
        Due.same("through without a unit", b.reason(0, 2, false), 1);
        Due.same("three days of it", b.told(0, 2, false), 3);
        b.column(0, 20, 0, 0);
        Due.same("neither", b.reason(0, 0, false), 4);
    }

    private static void reasonWaiting() {
        Due.sentence("II", "2 WAITING, ahead of COLUMN 0 for a CARD that wasn't DONE ahead of that DAY");
        WorkBoard b = Boards.of(1, 1, 0, 1);
        Boards.come(b, 2, 0, false);
        b.size(0, 0, 2);
        b.waits(1, 0);
        Due.same("also where it is full", b.reason(1, 0, false), 2);
        Due.same("on the day on which that is DONE", b.reason(1, 1, false), 2);
        Due.same("not on the next one", b.reason(1, 2, false), 1);
        b.card(0, false);
        b.waits(2, 0);
        Due.same("then it is full", b.reason(2, 2, false), 3);
        Due.same("two days of it", b.told(2, 3, false) * 10 + b.told(2, 4, false), 21);
        b.column(0, 0, 0, 1);
        Due.same("also where nothing goes in", b.reason(1, 3000, false), 2);
    }

    private static void reasonFullAhead() {
        Due.sentence("II", "3 FULL: else ahead of COLUMN 0");
        WorkBoard b = Boards.of(1, 1, 0, 0);
        Boards.come(b, 2, 0, false);
        b.card(0, true);
        Due.same("the limit is full", b.reason(1, 0, false), 3);
        Due.same("there is no lane", b.reason(2, 0, false), 3);
        Due.same("not full for the one in it", b.reason(0, 0, false), 4);
        b.column(0, 0, 1, 0);
        Due.same("there is no limit", b.reason(0, 0, false), 3);
        Due.same("there is a lane", b.reason(2, 0, false), 4);
    }

    private static void reasonFullThrough() {
        Due.sentence("II", "or through ahead of that DAY and not pulled on it");
        WorkBoard b = Boards.of(2, 20, 0, 20);
        b.column(1, 1, 0, 1);
        Boards.come(b, 3, 0, false);
        Due.same("through on that day", b.reason(1, 0, false), 1);
        Due.same("through ahead of it, pulled on it", b.reason(0, 1, false), 1);
        Due.same("through ahead of it, not pulled", b.reason(1, 1, false), 3);
        Due.same("pulled", b.reason(1, 2, false), 1);
        Due.same("not pulled", b.reason(2, 2, false), 3);
        b.column(1, 1, 0, 0);
        Due.same("pulled, though not worked", b.reason(0, 1, false), 4);
        Due.same("not pulled", b.reason(1, 1, false), 3);
        WorkBoard back = Boards.of(2, 1, 0, 20);
        Boards.come(back, 2, 0, false);
        back.back(0, 1, 0);
        Due.same("its way back is full", back.reason(0, 2, false), 3);
    }

    private static void reasonHands() {
        Due.sentence("II", "4 HANDS: else.");
        WorkBoard b = Boards.of(1, 20, 5, 1);
        Boards.come(b, 3, 0, false);
        b.card(0, true);
        Due.same("the urgent one is worked", b.reason(3, 0, false), 1);
        for (int c = 0; c < 3; c++) {
            Due.same("pulled, without hands", b.reason(c, 0, false), 4);
        }
        Due.same("in the column, without hands", b.reason(2, 2, false), 4);
        Due.same("three days of it", b.told(2, 5, false), 3);
    }

    private static void lengthNotAheadOfTheLast() {
        Due.sentence("II", "to the first DAY, not ahead of that on which the last CARD comes");
        WorkBoard b = Boards.of(1, 20, 0, 20);
        b.card(99, false);
        b.card(0, false);
        Due.same("days of nothing ahead of it don't end the run", b.length(0, false), 100);
        Due.same("it goes on", b.told(0, 0, false), 99);
        b.card(99, true);
        Due.same("the same", b.length(0, false), 100);
        b.size(0, 0, 0);
        b.column(0, 0, 0, 20);
        Due.same("nothing on that day itself", b.length(0, false), 99);
        b.columns(1);
        b.column(0, 0, 0, 0);
        b.card(0, false);
        Due.same("nothing on day 0", b.length(0, false), 0);
        b.card(1, false);
        Due.same("nothing on day 1", b.length(0, false), 1);
    }

    private static void lengthFirstDayOfNothing() {
        Due.sentence("II", "on which nothing was pulled, worked or became through: its LENGTH is that DAY's number");
        WorkBoard b = Boards.of(1, 1, 0, 1);
        b.card(0, false);
        Due.same("a day of work", b.length(0, false), 1);
        b.size(0, 0, 9);
        Due.same("nine days of work", b.length(0, false), 9);
        b.size(0, 0, 0);
        Due.same("a day on which it became through", b.length(0, false), 1);
        b.card(9, false);
        Due.same("and one on day 9", b.length(0, false), 10);
    }

    private static void lengthPulledOnly() {
        Due.sentence("II", "on which nothing was pulled");
        WorkBoard b = Boards.of(2, 1, 0, 0);
        b.card(0, false);
        Due.same("a pull on day 0", b.length(0, false), 1);
        Due.same("JAM behind it", b.length(1, false), 1);
        b.size(0, 0, 0);
        Due.same("and on day 1", b.length(0, false), 2);
        Due.same("JAM behind it", b.length(1, false), 2);
    }

    private static void lengthWithoutCards() {
        Due.sentence("II", "(0 without CARDS)");
        for (int n = 1; n <= 4; n++) {
            WorkBoard b = Boards.of(n, 0, 0, 0);
            b.other(0, 0, 20);
            Due.same("LENGTH", b.length(0, false), 0);
            Due.same("LENGTH of the other run", b.length(0, true), 0);
        }
        WorkBoard b = new WorkBoard();
        b.card(99, false);
        b.columns(1);
        Due.same("LENGTH when the cards are gone", b.length(0, false), 0);
    }

    /** A day for each: a run never comes near day 3000. */
    private static void lengthOfTheLongestRun() {
        Due.sentence("II", "THE RUN: DAY 0, 1, .. to the first DAY");
        WorkBoard b = Boards.of(4, 1, 0, 1);
        for (int c = 0; c < 16; c++) {
            b.card(99, false);
            for (int k = 0; k < 4; k++) {
                b.size(c, k, 9);
            }
            b.waits(c, c - 1);
            b.back(c, 3, 0);
        }
        Due.same("LENGTH", b.length(0, false), 99 + 16 * 72);
        Due.same("the last one", b.told(15, 1, false), 16 * 72);
        Due.same("its WAITING", b.told(15, 3, false), 15 * 72);
        Due.same("sum of AGES", b.length(2, false), 72 * 136);
        Due.same("the least sum of all, up to 4", b.best(4), 72 * 136);
    }

    private static void ageBothOfThem() {
        Due.sentence("II", "AGE of a CARD that is DONE: the DAYS from that on which it came to that on which it was DONE, both");
        WorkBoard b = Boards.of(1, 20, 0, 20);
        b.card(99, false);
        Due.same("DONE on the day on which it came", b.told(0, 1, false), 1);
        b.size(0, 0, 2);
        Due.same("on the next one", b.told(0, 1, false), 2);
        b.card(0, false);
        Due.same("of day 0", b.told(1, 1, false), 1);
    }

    private static void jamNone() {
        Due.sentence("II", "JAM: if all are DONE: none");
        WorkBoard b = new WorkBoard();
        Due.same("without cards", b.length(1, false), NONE);
        b.card(0, false);
        Due.same("one is DONE", b.length(1, false), NONE);
        b.card(99, true);
        Due.same("both are DONE", b.length(1, false), NONE);
        b.column(0, 3, 0, 2);
        Due.same("one isn't", b.length(1, false), 1);
    }

    private static void jamBehindTheLastOne() {
        Due.sentence("II", "else the DAY behind the last one on which something was pulled, worked or became through");
        WorkBoard b = Boards.of(1, 3, 0, 2);
        b.card(0, true);
        b.card(7, false);
        b.card(99, true);
        Due.same("behind day 7, ahead of LENGTH", b.length(1, false), 8);
        Due.same("LENGTH", b.length(0, false), 99);
        b.card(99, false);
        Due.same("behind day 99", b.length(1, false), 100);
        Due.same("LENGTH", b.length(0, false), 100);
    }

    private static void jamZero() {
        Due.sentence("II", "(0 if there is none)");
        WorkBoard b = Boards.of(1, 0, 0, 20);
        b.card(99, false);
        b.card(3, true);
        Due.same("nothing at all", b.length(1, false), 0);
        b.column(0, 20, 0, 0);
        Due.same("a pull on day 99", b.length(1, false), 100);
        b.columns(1);
        b.column(0, 0, 1, 1);
        b.card(0, true);
        b.card(0, false);
        Due.same("on day 0", b.length(1, false), 1);
    }

    private static void toldDone() {
        Due.sentence("10", "0 the DAY on which it was DONE (NONE), 1 AGE (NONE)");
        WorkBoard b = Boards.of(1, 1, 0, 20);
        b.card(4, false);
        b.card(4, true);
        b.card(0, false);
        Due.same("DONE", b.told(0, 0, false), 4);
        Due.same("AGE", b.told(0, 1, false), 1);
        Due.same("DONE on day 0", b.told(2, 0, false), 0);
        Due.same("not DONE", b.told(1, 0, false), NONE);
        Due.same("no AGE", b.told(1, 1, false), NONE);
        Due.same("but days, up to LENGTH", b.told(1, 4, false), 1);
    }

    private static void toldDaysByReason() {
        Due.sentence("10", "2 .. 5: its DAYS ahead of LENGTH by REASON 1 .. 4");
        WorkBoard b = Boards.of(1, 1, 0, 1);
        Boards.come(b, 3, 0, false);
        b.size(0, 0, 2);
        b.waits(2, 0);
        b.card(3, true);
        Due.same("LENGTH", b.length(0, false), 4);
        Due.same("0: WORKED", b.told(0, 2, false), 2);
        Due.same("1: FULL", b.told(1, 4, false), 2);
        Due.same("1: WORKED", b.told(1, 2, false), 1);
        Due.same("2: WAITING", b.told(2, 3, false), 2);
        Due.same("2: FULL", b.told(2, 4, false), 1);
        Due.same("2: WORKED", b.told(2, 2, false), 1);
        Due.same("3: not on LENGTH", b.told(3, 4, false), 1);
        Due.same("though FULL on it", b.reason(3, 4, false), 3);
        b.column(0, 1, 0, 0);
        Due.same("LENGTH", b.length(0, false), 3);
        Due.same("0: HANDS", b.told(0, 5, false), 3);
        Due.same("1: FULL", b.told(1, 4, false), 3);
        Due.same("2: WAITING", b.told(2, 3, false), 3);
        Due.same("3: came on LENGTH", b.told(3, 4, false), 0);
        b.columns(1);
        b.column(0, 0, 0, 0);
        b.card(0, false);
        for (int what = 2; what < 6; what++) {
            Due.same("LENGTH 0: no days", b.told(0, what, false), 0);
        }
    }

    private static void toldOtherRun() {
        Due.sentence("10", "in the run (other false) or the other one");
        WorkBoard b = Boards.of(1, 1, 1, 1);
        Boards.come(b, 2, 0, false);
        b.waits(1, 0);
        b.other(2, 0, 0);
        int[] run = {1, 2, 1, 1, 0, 0};
        int[] other = {NONE, NONE, 0, 1, 0, 0};
        for (int what = 0; what < 6; what++) {
            Due.same("run, " + what, b.told(1, what, false), run[what]);
            Due.same("other one, " + what, b.told(1, what, true), other[what]);
        }
    }

    private static void toldRefused() {
        Due.sentence("10", "NONE for others.");
        WorkBoard b = Boards.rich();
        for (int what = 0; what < 6; what++) {
            Due.same("c -1", b.told(-1, what, false), NONE);
            Due.same("c as many as there are", b.told(5, what, true), NONE);
            Due.same("c 16", b.told(16, what, false), NONE);
        }
        Due.same("what -1", b.told(0, -1, false), NONE);
        Due.same("what 6", b.told(0, 6, true), NONE);
        for (int v : FAR) {
            Due.same("c " + v, b.told(v, 2, false), NONE);
            Due.same("what " + v, b.told(4, v, true), NONE);
        }
        Due.same("on an empty board", new WorkBoard().told(0, 0, false), NONE);
    }

    private static void atTheEndOfADay() {
        Due.sentence("11", "Where a CARD is at the end of a DAY: its COLUMN, 10 DONE, 11 ahead of COLUMN 0.");
        WorkBoard b = Boards.of(4, 1, 0, 20);
        Boards.come(b, 2, 1, false);
        int[] first = {NONE, 0, 1, 2, 10};
        int[] second = {NONE, 11, 0, 1, 2};
        for (int day = 0; day < 5; day++) {
            Due.same("0 on day " + day, b.at(0, day, false), first[day]);
            Due.same("1 on day " + day, b.at(1, day, false), second[day]);
        }
        b.size(0, 3, 2);
        Due.same("in the last one", b.at(0, 4, false), 3);
        b.other(0, 0, 0);
        Due.same("in the other run", b.at(0, 4, true), 11);
    }

    private static void atDays0To3000() {
        Due.sentence("11", "a DAY (0 .. 3000)");
        WorkBoard b = new WorkBoard();
        b.card(0, false);
        Due.same("day 0", b.at(0, 0, false), 10);
        Due.same("day 3000", b.at(0, 3000, false), 10);
        Due.same("day -1", b.at(0, -1, false), NONE);
        Due.same("day 3001", b.at(0, 3001, false), NONE);
    }

    private static void atHasntCome() {
        Due.sentence("11", "NONE: it hasn't come");
        WorkBoard b = new WorkBoard();
        b.card(99, false);
        b.card(0, false);
        Due.same("on day 0", b.at(0, 0, false), NONE);
        Due.same("on day 98", b.at(0, 98, false), NONE);
        Due.same("on day 99", b.at(0, 99, false), 10);
    }

    private static void atRefused() {
        Due.sentence("11", "and for others");
        WorkBoard b = Boards.rich();
        Due.same("c -1", b.at(-1, 0, false), NONE);
        Due.same("c as many as there are", b.at(5, 0, true), NONE);
        Due.same("c 16", b.at(16, 0, false), NONE);
        for (int v : FAR) {
            Due.same("c " + v, b.at(v, 0, false), NONE);
        }
        for (int day : FAR_DAYS) {
            Due.same("day " + day, b.at(0, day, true), NONE);
        }
        Due.same("on an empty board", new WorkBoard().at(0, 0, false), NONE);
    }

    private static void reasonDays0To3000() {
        Due.sentence("12", "a DAY (0 .. 3000");
        WorkBoard b = Boards.of(1, 0, 0, 0);
        b.card(0, false);
        Due.same("day 0", b.reason(0, 0, false), 3);
        Due.same("day 3000", b.reason(0, 3000, false), 3);
        Due.same("day -1", b.reason(0, -1, false), NONE);
        Due.same("day 3001", b.reason(0, 3001, false), NONE);
    }

    private static void reasonBehindLength() {
        Due.sentence("12", "behind LENGTH as on that");
        WorkBoard b = Boards.of(2, 1, 0, 1);
        b.column(1, 1, 0, 0);
        Boards.come(b, 4, 0, false);
        b.waits(3, 0);
        int[] reasons = {4, 3, 3, 2};
        Due.same("LENGTH", b.length(0, false), 2);
        for (int c = 0; c < 4; c++) {
            Due.same("on LENGTH", b.reason(c, 2, false), reasons[c]);
            Due.same("behind it", b.reason(c, 3, false), reasons[c]);
            Due.same("far behind it", b.reason(c, 3000, false), reasons[c]);
        }
        b.column(1, 1, 0, 1);
        Due.same("DONE ones have none on it", b.reason(1, b.length(0, false), false), NONE);
        Due.same("nor behind it", b.reason(1, 3000, false), NONE);
    }

    private static void reasonWithoutOne() {
        Due.sentence("12", "NONE without one");
        WorkBoard b = new WorkBoard();
        b.card(50, false);
        Due.same("it hasn't come", b.reason(0, 0, false), NONE);
        Due.same("it hasn't come", b.reason(0, 49, false), NONE);
        Due.same("it is there", b.reason(0, 50, false), 1);
        Due.same("it is DONE", b.reason(0, 51, false), NONE);
    }

    private static void reasonRefused() {
        Due.sentence("12", "and for others");
        WorkBoard b = Boards.rich();
        Due.same("c -1", b.reason(-1, 0, false), NONE);
        Due.same("c as many as there are", b.reason(5, 0, true), NONE);
        Due.same("c 16", b.reason(16, 0, false), NONE);
        for (int v : FAR) {
            Due.same("c " + v, b.reason(v, 0, false), NONE);
        }
        for (int day : FAR_DAYS) {
            Due.same("day " + day, b.reason(0, day, true), NONE);
        }
        Due.same("on an empty board", new WorkBoard().reason(0, 0, false), NONE);
    }

    private static void countsCome() {
        Due.sentence("13", "what 0 CARDS that have come");
        WorkBoard b = Boards.of(1, 1, 0, 20);
        int[] days = {0, 5, 5, 99};
        for (int day : days) {
            b.card(day, day == 5);
        }
        Due.same("day 0", b.counts(0, 0, false), 1);
        Due.same("day 4", b.counts(4, 0, false), 1);
        Due.same("day 5", b.counts(5, 0, false), 3);
        Due.same("day 98", b.counts(98, 0, false), 3);
        Due.same("day 99", b.counts(99, 0, false), 4);
        Due.same("day 3000", b.counts(3000, 0, false), 4);
    }

    private static void countsDone() {
        Due.sentence("13", "1 DONE");
        WorkBoard b = Boards.of(2, 1, 0, 20);
        Boards.come(b, 3, 0, false);
        for (int day = 0; day < 5; day++) {
            Due.same("day " + day, b.counts(day, 1, false), Math.min(day, 3));
        }
    }

    private static void countsThere() {
        Due.sentence("13", "2 there");
        WorkBoard b = Boards.of(2, 1, 0, 20);
        Boards.come(b, 3, 0, false);
        b.card(1, false);
        int[] there = {3, 3, 2, 1, 0, 0};
        for (int day = 0; day < 6; day++) {
            Due.same("day " + day, b.counts(day, 2, false), there[day]);
        }
    }

    private static void countsInColumn() {
        Due.sentence("13", "10 + k: in COLUMN k");
        WorkBoard b = Boards.of(4, 20, 5, 20);
        Boards.come(b, 11, 0, false);
        Boards.come(b, 5, 0, true);
        for (int day = 0; day < 4; day++) {
            for (int k = 0; k < 4; k++) {
                Due.same("day " + day + ", column " + k, b.counts(day, 10 + k, false), day == k && k < 3 ? 16 : 0);
            }
        }
        b.column(3, 3, 2, 0);
        Due.same("through ones in column 2", b.counts(3000, 12, false), 11);
        Due.same("those in column 3", b.counts(3000, 13, false), 5);
    }

    private static void countsThereOnThatDay() {
        Due.sentence("13", "3: there on that DAY, those that were DONE on it, too");
        WorkBoard b = Boards.of(2, 1, 0, 20);
        Boards.come(b, 3, 0, false);
        b.card(1, false);
        int[] there = {3, 4, 3, 2, 1, 0};
        for (int day = 0; day < 6; day++) {
            Due.same("day " + day, b.counts(day, 3, false), there[day]);
        }
        Due.same("long behind", b.counts(3000, 3, false), 0);
    }

    private static void countsDays0To3000() {
        Due.sentence("13", "At the end of a DAY (0 .. 3000)");
        WorkBoard b = new WorkBoard();
        b.card(0, false);
        Due.same("day 0", b.counts(0, 0, false), 1);
        Due.same("day 3000", b.counts(3000, 0, false), 1);
        Due.same("day -1", b.counts(-1, 0, false), NONE);
        Due.same("day 3001", b.counts(3001, 0, false), NONE);
    }

    private static void countsRefused() {
        Due.sentence("13", "NONE for others.");
        WorkBoard b = Boards.rich();
        for (int what = 4; what < 10; what++) {
            Due.same("what " + what, b.counts(0, what, false), NONE);
        }
        Due.same("what -1", b.counts(0, -1, false), NONE);
        Due.same("what 10 + n", b.counts(0, 13, true), NONE);
        Due.same("what 14", b.counts(0, 14, true), NONE);
        Due.same("the last column", b.counts(0, 12, true), 0);
        for (int what : FAR) {
            Due.same("what " + what, b.counts(0, what, false), NONE);
        }
        int[] whats = {0, 1, 2, 3, 10, 12};
        for (int day : FAR_DAYS) {
            for (int what : whats) {
                Due.same("day " + day, b.counts(day, what, true), NONE);
            }
        }
        for (int n = 1; n <= 4; n++) {
            WorkBoard of = Boards.of(n, 3, 1, 2);
            Due.same("by " + n + " columns the last one", of.counts(0, 9 + n, false), 0);
            Due.same("by " + n + " columns there is no other", of.counts(0, 10 + n, false), NONE);
        }
    }

    private static void countsEmptyAndFull() {
        Due.sentence("13", "CARDS that have come, DONE, there");
        WorkBoard b = Boards.of(1, 20, 5, 20);
        int[] whats = {0, 1, 2, 3, 10};
        for (int what : whats) {
            Due.same("an empty board, what " + what, b.counts(0, what, false), 0);
            Due.same("an empty board, what " + what, b.counts(3000, what, true), 0);
        }
        Boards.come(b, 16, 0, false);
        b.other(2, 0, 0);
        int[] run = {16, 16, 0, 16, 0};
        int[] other = {16, 0, 16, 16, 16};
        for (int i = 0; i < 5; i++) {
            Due.same("a full board, what " + whats[i], b.counts(0, whats[i], false), run[i]);
            Due.same("a full board without hands, what " + whats[i], b.counts(0, whats[i], true), other[i]);
        }
    }

    private static void lengthSum() {
        Due.sentence("14", "the sum of AGES (2; NONE if not all are DONE)");
        WorkBoard b = Boards.of(1, 1, 0, 20);
        Due.same("without cards", b.length(2, false), 0);
        b.card(0, false);
        Due.same("1", b.length(2, false), 1);
        b.card(0, false);
        Due.same("1 + 2", b.length(2, false), 3);
        b.other(0, 0, 2);
        Due.same("1 + 1", b.length(2, true), 2);
        b.card(0, true);
        Due.same("one isn't DONE", b.length(2, false), NONE);
        b.other(1, 0, 1);
        Due.same("1 + 1 + 1", b.length(2, true), 3);
    }

    private static void lengthRefused() {
        Due.sentence("14", "NONE for others.");
        WorkBoard b = Boards.rich();
        Due.same("what -1", b.length(-1, false), NONE);
        Due.same("what 3", b.length(3, true), NONE);
        for (int what : FAR) {
            Due.same("what " + what, b.length(what, false), NONE);
            Due.same("what " + what, b.length(what, true), NONE);
        }
    }

    /** Answers don't hang on what was asked ahead of them, nor do refused questions move anything. */
    private static void askedInAnyOrder() {
        Due.sentence("11", "Where a CARD is at the end of a DAY");
        WorkBoard b = Boards.rich();
        int[] ahead = Boards.answers(b);
        int[] places = new int[12];
        for (int day = 0; day < 12; day++) {
            places[day] = b.at(0, day, false);
        }
        for (int day = 11; day >= 0; day--) {
            b.at(0, 3000, false);
            b.counts(-1, 0, false);
            b.reason(0, 3001, false);
            Due.same("day " + day, b.at(0, day, false), places[day]);
        }
        Due.same("all answers", Boards.answers(b), ahead);
    }
}
