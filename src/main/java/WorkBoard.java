import java.util.Arrays;

/**
 * A work board and its model: cards go through columns with limits and hands, day by day.
 * The words and the promises are those of the document (DOC.md).
 */
public final class WorkBoard {
    public static final int NONE = -1;

    private static final int MAX_COLUMNS = 4;
    private static final int MAX_CARDS = 16;
    private static final int MAX_LIMIT = 20;
    private static final int MAX_LANE = 5;
    private static final int MAX_HANDS = 20;
    private static final int MAX_PACE = 9;
    private static final int MAX_SIZE = 9;
    private static final int MAX_BEST = 4;
    private static final int LAST_COMING = 99;
    /** The last day that may be asked for; every run is at rest long before it (see NOTES.md). */
    private static final int LAST_DAY = 3000;
    private static final int NO_COST = -100000;

    private static final int FIRST_LIMIT = 3;
    private static final int FIRST_LANE = 1;
    private static final int FIRST_HANDS = 2;
    private static final int FIRST_PACE = 1;
    private static final int FIRST_SIZE = 1;

    /** Where a card is, when it is in no column. */
    private static final int DONE = 10;
    private static final int AHEAD = 11;

    /** From here on counts() tells of the columns. */
    private static final int COLUMN_COUNTS = 10;

    private static final int REASONS = 4;
    private static final int WORKED = 1;
    private static final int WAITING = 2;
    private static final int FULL = 3;
    private static final int HANDS = 4;

    private final Cards cards;
    private final Rules rules;
    private final Rules toldRules;
    private final Rules otherRules;
    private final Run plainRun;
    private final Run otherRun;
    private final Run calmRun;
    private final Search search;

    public WorkBoard() {
        cards = new Cards();
        rules = new Rules();
        toldRules = new Rules();
        otherRules = new Rules();
        plainRun = new Run(cards, rules, false);
        otherRun = new Run(cards, otherRules, false);
        calmRun = new Run(cards, rules, true);
        search = new Search(cards, rules);
        startAnew(1);
    }

    public boolean columns(int n) {
        if (!isWithin(n, 1, MAX_COLUMNS)) {
            return false;
        }
        startAnew(n);
        return true;
    }

    public boolean column(int k, int limit, int lane, int hands) {
        boolean fits = cards.hasColumn(k) && isWithin(limit, 0, MAX_LIMIT)
                && isWithin(lane, 0, MAX_LANE) && isWithin(hands, 0, MAX_HANDS);
        if (!fits) {
            return false;
        }
        rules.tellColumn(k, limit, lane, hands);
        toldRules.tellColumn(k, NONE, NONE, NONE);
        forgetRuns();
        return true;
    }

    public boolean pace(int v) {
        if (!isWithin(v, 1, MAX_PACE)) {
            return false;
        }
        rules.pace = v;
        forgetRuns();
        return true;
    }

    public int card(int day, boolean urgent) {
        if (!isWithin(day, 0, LAST_COMING) || cards.count >= MAX_CARDS) {
            return NONE;
        }
        int c = cards.addCard(day, urgent);
        forgetRuns();
        return c;
    }

    public boolean size(int c, int k, int v) {
        if (!cards.hasCard(c) || !cards.hasColumn(k) || !isWithin(v, 0, MAX_SIZE)) {
            return false;
        }
        cards.setSize(c, k, v);
        forgetRuns();
        return true;
    }

    public boolean waits(int c, int other) {
        if (!cards.hasCard(c) || !isWithin(other, NONE, c - 1)) {
            return false;
        }
        cards.waitsFor[c] = other;
        forgetRuns();
        return true;
    }

    public boolean back(int c, int r, int q) {
        if (!cards.hasCard(c)) {
            return false;
        }
        if (r != NONE && !(cards.hasColumn(r) && isWithin(q, 0, r - 1))) {
            return false;
        }
        cards.backFrom[c] = r;
        cards.backTo[c] = r == NONE ? NONE : q;
        forgetRuns();
        return true;
    }

    public boolean other(int what, int k, int v) {
        if (!mayTellOther(what, k, v)) {
            return false;
        }
        switch (what) {
            case 0:
                toldRules.limit[k] = v;
                break;
            case 1:
                toldRules.lane[k] = v;
                break;
            case 2:
                toldRules.hands[k] = v;
                break;
            default:
                toldRules.pace = v;
                break;
        }
        forgetRuns();
        return true;
    }

    public int told(int c, int what, boolean other) {
        if (!cards.hasCard(c)) {
            return NONE;
        }
        Run run = chosenRun(other);
        run.showDay(LAST_DAY);
        switch (what) {
            case 0:
                return run.doneOn[c];
            case 1:
                return run.ageOf(c);
            case 2:
            case 3:
            case 4:
            case 5:
                return run.daysBy(c, what - 1);
            default:
                return NONE;
        }
    }

    public int at(int c, int day, boolean other) {
        if (!cards.hasCard(c) || !isWithin(day, 0, LAST_DAY)) {
            return NONE;
        }
        Run run = chosenRun(other);
        run.showDay(day);
        return run.place[c];
    }

    public int reason(int c, int day, boolean other) {
        if (!cards.hasCard(c) || !isWithin(day, 0, LAST_DAY)) {
            return NONE;
        }
        Run run = chosenRun(other);
        run.showDay(day);
        return run.reasonOf(c);
    }

    public int counts(int day, int what, boolean other) {
        if (!isWithin(day, 0, LAST_DAY)) {
            return NONE;
        }
        Run run = chosenRun(other);
        run.showDay(day);
        switch (what) {
            case 0:
                return run.countCome();
            case 1:
                return run.countAt(DONE);
            case 2:
                return run.countCome() - run.countAt(DONE);
            case 3:
                return run.countThereOnDay();
            default:
                return cards.hasColumn(what - COLUMN_COUNTS) ? run.countAt(what - COLUMN_COUNTS) : NONE;
        }
    }

    public int length(int what, boolean other) {
        Run run = chosenRun(other);
        run.showDay(LAST_DAY);
        switch (what) {
            case 0:
                return run.day;
            case 1:
                return run.areAllDone() ? NONE : run.lastActive + 1;
            case 2:
                return run.areAllDone() ? run.sumOfAges() : NONE;
            default:
                return NONE;
        }
    }

    public int differ() {
        plainRun.restart();
        otherRun.restart();
        for (int d = 0; d <= LAST_DAY && !(plainRun.resting && otherRun.resting); d++) {
            plainRun.showDay(d);
            otherRun.showDay(d);
            if (plainRun.standsUnlike(otherRun)) {
                return d;
            }
        }
        return NONE;
    }

    public int promise(int share, boolean other) {
        if (!isWithin(share, 1, 100)) {
            return NONE;
        }
        Run run = chosenRun(other);
        run.showDay(LAST_DAY);
        return run.ageForShare(share);
    }

    public int best(int m) {
        if (!isWithin(m, 1, MAX_BEST)) {
            return NONE;
        }
        search.findUpTo(m);
        return search.leastSum;
    }

    public int bestLimit(int m, int k) {
        if (!isWithin(m, 1, MAX_BEST) || !cards.hasColumn(k)) {
            return NONE;
        }
        search.findUpTo(m);
        return search.leastSum == NONE ? NONE : search.leastLimit[k];
    }

    public int cost() {
        plainRun.showDay(LAST_DAY);
        calmRun.showDay(LAST_DAY);
        if (!plainRun.areAllDone() || !calmRun.areAllDone()) {
            return NO_COST;
        }
        return plainRun.sumOfPlainAges() - calmRun.sumOfPlainAges();
    }

    public int about(int what) {
        switch (what) {
            case 0:
                return cards.columns;
            case 1:
                return cards.count;
            case 2:
                return rules.pace;
            case 3:
                return otherRules.pace;
            default:
                return NONE;
        }
    }

    private static boolean isWithin(int v, int least, int most) {
        return v >= least && v <= most;
    }

    private boolean mayTellOther(int what, int k, int v) {
        switch (what) {
            case 0:
                return cards.hasColumn(k) && isWithin(v, NONE, MAX_LIMIT);
            case 1:
                return cards.hasColumn(k) && isWithin(v, NONE, MAX_LANE);
            case 2:
                return cards.hasColumn(k) && isWithin(v, NONE, MAX_HANDS);
            case 3:
                return v == NONE || isWithin(v, 1, MAX_PACE);
            default:
                return false;
        }
    }

    private Run chosenRun(boolean other) {
        return other ? otherRun : plainRun;
    }

    private void startAnew(int n) {
        cards.clear(n);
        rules.setAll(FIRST_LIMIT, FIRST_LANE, FIRST_HANDS, FIRST_PACE);
        toldRules.setAll(NONE, NONE, NONE, NONE);
        forgetRuns();
    }

    /** What the runs say stands only as long as cards and rules stay the same. */
    private void forgetRuns() {
        otherRules.setTo(rules, toldRules);
        plainRun.restart();
        otherRun.restart();
        calmRun.restart();
        search.forget();
    }

    /** What is the same in every run: the number of columns, and the cards. */
    private static final class Cards {
        int columns;
        int count;
        final int[] day = new int[MAX_CARDS];
        final boolean[] urgent = new boolean[MAX_CARDS];
        final int[] waitsFor = new int[MAX_CARDS];
        final int[] backFrom = new int[MAX_CARDS];
        final int[] backTo = new int[MAX_CARDS];
        /** The cards by the day of coming, then by numbers. */
        final int[] byDay = new int[MAX_CARDS];
        private final int[] sizes = new int[MAX_CARDS * MAX_COLUMNS];

        boolean hasColumn(int k) {
            return k >= 0 && k < columns;
        }

        boolean hasCard(int c) {
            return c >= 0 && c < count;
        }

        void clear(int n) {
            columns = n;
            count = 0;
        }

        /** The caller has seen that there are fewer than MAX_CARDS. */
        int addCard(int comingDay, boolean isUrgent) {
            int c = count;
            day[c] = comingDay;
            urgent[c] = isUrgent;
            waitsFor[c] = NONE;
            backFrom[c] = NONE;
            backTo[c] = NONE;
            for (int k = 0; k < MAX_COLUMNS; k++) {
                setSize(c, k, FIRST_SIZE);
            }
            insertByDay(c);
            count++;
            return c;
        }

        void setSize(int c, int k, int v) {
            sizes[c * MAX_COLUMNS + k] = v;
        }

        int sizeIn(int c, int k) {
            return sizes[c * MAX_COLUMNS + k];
        }

        int lastComing() {
            return count == 0 ? 0 : day[byDay[count - 1]];
        }

        private void insertByDay(int c) {
            int i = count;
            while (i > 0 && day[byDay[i - 1]] > day[c]) {
                byDay[i] = byDay[i - 1];
                i--;
            }
            byDay[i] = c;
        }
    }

    /** What two runs may have of their own: limit, lane and hands of each column, and the pace. */
    private static final class Rules {
        final int[] limit = new int[MAX_COLUMNS];
        final int[] lane = new int[MAX_COLUMNS];
        final int[] hands = new int[MAX_COLUMNS];
        int pace;

        void tellColumn(int k, int newLimit, int newLane, int newHands) {
            limit[k] = newLimit;
            lane[k] = newLane;
            hands[k] = newHands;
        }

        void setAll(int newLimit, int newLane, int newHands, int newPace) {
            for (int k = 0; k < MAX_COLUMNS; k++) {
                tellColumn(k, newLimit, newLane, newHands);
            }
            pace = newPace;
        }

        /** Takes what is told, and the base where nothing is told. */
        void setTo(Rules base, Rules told) {
            for (int k = 0; k < MAX_COLUMNS; k++) {
                limit[k] = toldOr(told.limit[k], base.limit[k]);
                lane[k] = toldOr(told.lane[k], base.lane[k]);
                hands[k] = toldOr(told.hands[k], base.hands[k]);
            }
            pace = toldOr(told.pace, base.pace);
        }

        private static int toldOr(int told, int base) {
            return told == NONE ? base : told;
        }
    }

    /** One run of the cards by one set of rules; it stands at the end of a day and goes on day by day. */
    private static final class Run {
        private final Cards cards;
        private final Rules rules;
        private final boolean nobodyUrgent;
        /** The column of a card, DONE, AHEAD, or NONE ahead of its coming. */
        final int[] place = new int[MAX_CARDS];
        /** The column that a card may be pulled into; NONE if it may not be pulled at all. */
        private final int[] next = new int[MAX_CARDS];
        private final int[] left = new int[MAX_CARDS];
        final int[] doneOn = new int[MAX_CARDS];
        private final boolean[] worked = new boolean[MAX_CARDS];
        private final boolean[] beenBack = new boolean[MAX_CARDS];
        /** The cards that have been pulled, the one pulled last at the end; done ones may still stand in it. */
        private final int[] pulled = new int[MAX_CARDS];
        private int pulledCount;
        private final int[] handsLeft = new int[MAX_COLUMNS];
        private final int[] reasonDays = new int[MAX_CARDS * REASONS];
        int day;
        int lastActive;
        private boolean active;
        boolean resting;

        Run(Cards cards, Rules rules, boolean nobodyUrgent) {
            this.cards = cards;
            this.rules = rules;
            this.nobodyUrgent = nobodyUrgent;
        }

        void restart() {
            Arrays.fill(place, NONE);
            Arrays.fill(next, NONE);
            Arrays.fill(left, 0);
            Arrays.fill(doneOn, NONE);
            Arrays.fill(reasonDays, 0);
            for (int c = 0; c < MAX_CARDS; c++) {
                beenBack[c] = false;
            }
            pulledCount = 0;
            day = NONE;
            lastActive = NONE;
            resting = false;
        }

        /** Stands then at the end of that day, or at rest ahead of it, which is the same for all that is asked. */
        void showDay(int asked) {
            if (asked < day) {
                restart();
            }
            for (int d = day; d < asked && !resting; d++) {
                runNextDay();
                if (!resting) {
                    countReasons();
                }
            }
        }

        /**
         * The sum of ages if all cards are done and it is less than the bound (NONE: any sum will do), else NONE.
         * The sum is at least the days that cards have been there so far, so it may be given up early.
         */
        int sumBelow(int bound) {
            restart();
            int cardDays = 0;
            for (int d = 0; d <= LAST_DAY && !resting; d++) {
                runNextDay();
                cardDays += countThereOnDay();
                if (bound != NONE && cardDays >= bound) {
                    return NONE;
                }
            }
            return areAllDone() ? sumOfAges() : NONE;
        }

        int ageOf(int c) {
            return doneOn[c] == NONE ? NONE : doneOn[c] - cards.day[c] + 1;
        }

        int daysBy(int c, int reason) {
            return reasonDays[c * REASONS + reason - 1];
        }

        boolean areAllDone() {
            return countAt(DONE) == cards.count;
        }

        int sumOfAges() {
            int sum = 0;
            for (int c = 0; c < cards.count; c++) {
                sum += ageOf(c);
            }
            return sum;
        }

        /** Of the cards that aren't urgent on the board, also in a run where nobody is. */
        int sumOfPlainAges() {
            int sum = 0;
            for (int c = 0; c < cards.count; c++) {
                if (!cards.urgent[c]) {
                    sum += ageOf(c);
                }
            }
            return sum;
        }

        int ageForShare(int share) {
            int done = countAt(DONE);
            int least = NONE;
            for (int c = 0; c < cards.count; c++) {
                int age = ageOf(c);
                if (age != NONE && countNoOlder(age) * 100 >= share * done && (least == NONE || age < least)) {
                    least = age;
                }
            }
            return least;
        }

        int countAt(int where) {
            int n = 0;
            for (int c = 0; c < cards.count; c++) {
                if (place[c] == where) {
                    n++;
                }
            }
            return n;
        }

        int countCome() {
            return cards.count - countAt(NONE);
        }

        int countThereOnDay() {
            int n = 0;
            for (int c = 0; c < cards.count; c++) {
                if (isThereOnDay(c)) {
                    n++;
                }
            }
            return n;
        }

        boolean standsUnlike(Run that) {
            for (int c = 0; c < cards.count; c++) {
                if (place[c] != that.place[c] || left[c] != that.left[c]) {
                    return true;
                }
            }
            return false;
        }

        int reasonOf(int c) {
            if (!isThereOnDay(c)) {
                return NONE;
            }
            if (worked[c]) {
                return WORKED;
            }
            if (isWaiting(c)) {
                return WAITING;
            }
            return next[c] == NONE ? HANDS : FULL;
        }

        private int countNoOlder(int age) {
            int n = 0;
            for (int c = 0; c < cards.count; c++) {
                if (doneOn[c] != NONE && ageOf(c) <= age) {
                    n++;
                }
            }
            return n;
        }

        private boolean isThereOnDay(int c) {
            return place[c] != NONE && !isDoneAheadOfDay(c);
        }

        private boolean isDoneAheadOfDay(int c) {
            return doneOn[c] != NONE && doneOn[c] < day;
        }

        private boolean isWaiting(int c) {
            int awaited = cards.waitsFor[c];
            return place[c] == AHEAD && cards.hasCard(awaited) && !isDoneAheadOfDay(awaited);
        }

        private boolean isUrgent(int c) {
            return cards.urgent[c] && !nobodyUrgent;
        }

        private void runNextDay() {
            beginDay();
            for (int k = cards.columns - 1; k >= 0; k--) {
                pullInto(k, true, rules.lane[k]);
                pullInto(k, false, rules.limit[k]);
            }
            System.arraycopy(rules.hands, 0, handsLeft, 0, MAX_COLUMNS);
            workThose(true);
            workThose(false);
            if (active) {
                lastActive = day;
            }
            resting = !active && day >= cards.lastComing();
        }

        private void beginDay() {
            day++;
            active = false;
            for (int c = 0; c < cards.count; c++) {
                worked[c] = false;
                if (cards.day[c] == day) {
                    place[c] = AHEAD;
                    next[c] = 0;
                }
            }
        }

        /** Once through is enough: a card that may not go in now may not after the next has gone in, either. */
        private void pullInto(int k, boolean urgent, int most) {
            for (int i = 0; i < cards.count; i++) {
                int c = cards.byDay[i];
                if (next[c] == k && isUrgent(c) == urgent && !isWaiting(c)) {
                    if (countIn(k, urgent) >= most) {
                        return;
                    }
                    pullCard(c, k);
                }
            }
        }

        private int countIn(int k, boolean urgent) {
            int n = 0;
            for (int c = 0; c < cards.count; c++) {
                if (place[c] == k && isUrgent(c) == urgent) {
                    n++;
                }
            }
            return n;
        }

        private void pullCard(int c, int k) {
            place[c] = k;
            next[c] = NONE;
            left[c] = cards.sizeIn(c, k);
            noteLastPulled(c);
            active = true;
        }

        /** A card stands in the row once at the most, so the row never outgrows the cards. */
        private void noteLastPulled(int c) {
            int kept = 0;
            for (int i = 0; i < pulledCount; i++) {
                if (pulled[i] != c) {
                    pulled[kept] = pulled[i];
                    kept++;
                }
            }
            if (kept < MAX_CARDS) {
                pulled[kept] = c;
                pulledCount = kept + 1;
            }
        }

        /** All columns in one go: what is worked in one column changes nothing in another on the same day. */
        private void workThose(boolean urgent) {
            for (int i = 0; i < pulledCount; i++) {
                int c = pulled[i];
                int k = place[c];
                if (cards.hasColumn(k) && next[c] == NONE && isUrgent(c) == urgent) {
                    workCard(c, k);
                }
            }
        }

        private void workCard(int c, int k) {
            int units = Math.min(left[c], Math.min(handsLeft[k], rules.pace));
            left[c] -= units;
            handsLeft[k] -= units;
            if (left[c] == 0) {
                endColumn(c, k);
            }
            if (units > 0 || left[c] == 0) {
                worked[c] = true;
                active = true;
            }
        }

        private void endColumn(int c, int k) {
            if (k == cards.backFrom[c] && !beenBack[c]) {
                beenBack[c] = true;
                next[c] = cards.backTo[c];
            } else if (k == cards.columns - 1) {
                place[c] = DONE;
                doneOn[c] = day;
            } else {
                next[c] = k + 1;
            }
        }

        private void countReasons() {
            for (int c = 0; c < cards.count; c++) {
                int reason = reasonOf(c);
                if (reason != NONE) {
                    reasonDays[c * REASONS + reason - 1]++;
                }
            }
        }
    }

    /** Looks for the best limits, and keeps what it found until cards or rules change. */
    private static final class Search {
        private final Cards cards;
        private final Rules base;
        private final Rules trialRules = new Rules();
        private final Run trial;
        final int[] leastLimit = new int[MAX_COLUMNS];
        int leastSum;
        private int foundUpTo;

        Search(Cards cards, Rules base) {
            this.cards = cards;
            this.base = base;
            trial = new Run(cards, trialRules, false);
            forget();
        }

        void forget() {
            foundUpTo = NONE;
            leastSum = NONE;
        }

        /** Tries the limits in their order by columns, so the first of those with the least sum stays. */
        void findUpTo(int m) {
            if (foundUpTo == m) {
                return;
            }
            forget();
            trialRules.setTo(base, base);
            Arrays.fill(trialRules.limit, 1);
            int trials = countOfTrials(m);
            for (int i = 0; i < trials; i++) {
                int sum = trial.sumBelow(leastSum);
                if (sum != NONE) {
                    leastSum = sum;
                    System.arraycopy(trialRules.limit, 0, leastLimit, 0, MAX_COLUMNS);
                }
                goToNextLimits(m);
            }
            foundUpTo = m;
        }

        private int countOfTrials(int m) {
            int trials = 1;
            for (int k = 0; k < cards.columns; k++) {
                trials *= m;
            }
            return trials;
        }

        private void goToNextLimits(int m) {
            for (int k = cards.columns - 1; k >= 0; k--) {
                if (trialRules.limit[k] < m) {
                    trialRules.limit[k]++;
                    return;
                }
                trialRules.limit[k] = 1;
            }
        }
    }
}
