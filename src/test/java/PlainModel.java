import java.util.ArrayList;
import java.util.List;

/**
 * The document once more, as literally as can be and without a thought for speed: every answer is taken
 * from a story of a whole run, told anew whenever it is asked for.
 */
final class PlainModel {
    static final int NONE = -1;
    private static final int DONE = 10;
    private static final int AHEAD = 11;

    /** A card: what was told of it. */
    private static final class Card {
        int number;
        int day;
        boolean urgent;
        int[] size = {1, 1, 1, 1};
        Card awaited;
        int r = NONE;
        int q = NONE;
    }

    /** Limit, lane, hands of the columns, and the pace in the last row. */
    private static final class Terms {
        int[][] of = {{3, 3, 3, 3}, {1, 1, 1, 1}, {2, 2, 2, 2}, {1}};
    }

    /** A card on its way through one run. */
    private static final class Way {
        Card card;
        int place = NONE;
        boolean through;
        int nextColumn;
        boolean wentBack;
        int left;
        int wentIn;
        int doneOn = NONE;
        boolean hadUnit;
        boolean becameThrough;
        boolean pulled;
        List<Integer> places = new ArrayList<>();
        List<Integer> lefts = new ArrayList<>();
        List<Integer> reasons = new ArrayList<>();
    }

    /** What happened from day 0 to the day of LENGTH. */
    private static final class Story {
        List<Way> ways = new ArrayList<>();
        int length;
        int lastActive = NONE;

        int day(int day) {
            return Math.min(day, length);
        }

        int done() {
            int n = 0;
            for (Way w : ways) {
                n += w.doneOn != NONE ? 1 : 0;
            }
            return n;
        }

        boolean all() {
            return done() == ways.size();
        }

        int age(Way w) {
            return w.doneOn == NONE ? NONE : w.doneOn - w.card.day + 1;
        }

        int ages(boolean urgentToo) {
            int sum = 0;
            for (Way w : ways) {
                sum += urgentToo || !w.card.urgent ? age(w) : 0;
            }
            return sum;
        }
    }

    private int n = 1;
    private List<Card> cards = new ArrayList<>();
    private Terms terms = new Terms();
    private int[][] told = {{NONE, NONE, NONE, NONE}, {NONE, NONE, NONE, NONE}, {NONE, NONE, NONE, NONE}, {NONE}};

    private static boolean in(int v, int from, int to) {
        return from <= v && v <= to;
    }

    boolean columns(int count) {
        if (!in(count, 1, 4)) {
            return false;
        }
        n = count;
        cards = new ArrayList<>();
        terms = new Terms();
        told = new int[][] {{NONE, NONE, NONE, NONE}, {NONE, NONE, NONE, NONE}, {NONE, NONE, NONE, NONE}, {NONE}};
        return true;
    }

    boolean column(int k, int limit, int lane, int hands) {
        if (!in(k, 0, n - 1) || !in(limit, 0, 20) || !in(lane, 0, 5) || !in(hands, 0, 20)) {
            return false;
        }
        terms.of[0][k] = limit;
        terms.of[1][k] = lane;
        terms.of[2][k] = hands;
        for (int what = 0; what < 3; what++) {
            told[what][k] = NONE;
        }
        return true;
    }

    boolean pace(int v) {
        if (!in(v, 1, 9)) {
            return false;
        }
        terms.of[3][0] = v;
        return true;
    }

    int card(int day, boolean urgent) {
        if (!in(day, 0, 99) || cards.size() == 16) {
            return NONE;
        }
        Card card = new Card();
        card.number = cards.size();
        card.day = day;
        card.urgent = urgent;
        cards.add(card);
        return card.number;
    }

    private boolean isCard(int c) {
        return in(c, 0, cards.size() - 1);
    }

    boolean size(int c, int k, int v) {
        if (!isCard(c) || !in(k, 0, n - 1) || !in(v, 0, 9)) {
            return false;
        }
        cards.get(c).size[k] = v;
        return true;
    }

    boolean waits(int c, int other) {
        if (!isCard(c) || other != NONE && !in(other, 0, c - 1)) {
            return false;
        }
        cards.get(c).awaited = other == NONE ? null : cards.get(other);
        return true;
    }

    boolean back(int c, int r, int q) {
        if (!isCard(c) || r != NONE && (!in(r, 0, n - 1) || !in(q, 0, n - 1) || q >= r)) {
            return false;
        }
        cards.get(c).r = r;
        cards.get(c).q = q;
        return true;
    }

    boolean other(int what, int k, int v) {
        int[] least = {0, 0, 0, 1};
        int[] most = {20, 5, 20, 9};
        if (!in(what, 0, 3) || what != 3 && !in(k, 0, n - 1) || v != NONE && !in(v, least[what], most[what])) {
            return false;
        }
        told[what][what == 3 ? 0 : k] = v;
        return true;
    }

    private Terms terms(boolean other) {
        Terms t = new Terms();
        for (int what = 0; what < 4; what++) {
            for (int k = 0; k < t.of[what].length; k++) {
                t.of[what][k] = other && told[what][k] != NONE ? told[what][k] : terms.of[what][k];
            }
        }
        return t;
    }

    private Story story(boolean other) {
        return tell(terms(other), true);
    }

    private Story tell(Terms t, boolean anyUrgent) {
        Story story = new Story();
        int last = 0;
        for (Card card : cards) {
            Way w = new Way();
            w.card = card;
            story.ways.add(w);
            last = Math.max(last, card.day);
        }
        int goingIn = 0;
        for (int day = 0; ; day++) {
            for (Way w : story.ways) {
                w.hadUnit = false;
                w.becameThrough = false;
                w.pulled = false;
                if (w.card.day == day) {
                    w.place = AHEAD;
                }
            }
            for (int k = n - 1; k >= 0; k--) {
                Way first = firstToGoIn(story, t, k, day, anyUrgent);
                while (first != null) {
                    first.place = k;
                    first.through = false;
                    first.pulled = true;
                    first.left = first.card.size[k];
                    first.wentIn = goingIn++;
                    first = firstToGoIn(story, t, k, day, anyUrgent);
                }
            }
            for (int k = 0; k < n; k++) {
                workColumn(story, t, k, day, anyUrgent);
            }
            boolean active = false;
            for (Way w : story.ways) {
                active |= w.pulled || w.hadUnit || w.becameThrough;
                w.places.add(w.place);
                w.lefts.add(w.place < n ? w.left : 0);
                w.reasons.add(reason(story, w, day));
            }
            if (active) {
                story.lastActive = day;
            } else if (day >= last) {
                story.length = day;
                return story;
            }
        }
    }

    private boolean waiting(Story story, Way w, int day) {
        if (w.place != AHEAD || w.card.awaited == null) {
            return false;
        }
        int doneOn = story.ways.get(w.card.awaited.number).doneOn;
        return doneOn == NONE || doneOn >= day;
    }

    private Way firstToGoIn(Story story, Terms t, int k, int day, boolean anyUrgent) {
        int urgentIn = 0;
        int othersIn = 0;
        for (Way w : story.ways) {
            if (w.place == k && w.card.urgent && anyUrgent) {
                urgentIn++;
            } else if (w.place == k) {
                othersIn++;
            }
        }
        Way first = null;
        for (Way w : story.ways) {
            boolean isNext = w.place == AHEAD ? k == 0 && !waiting(story, w, day)
                    : in(w.place, 0, n - 1) && w.through && w.nextColumn == k;
            boolean urgent = w.card.urgent && anyUrgent;
            boolean may = urgent ? urgentIn < t.of[1][k] : othersIn < t.of[0][k];
            if (isNext && may && (first == null || isAhead(w, first, anyUrgent))) {
                first = w;
            }
        }
        return first;
    }

    private static boolean isAhead(Way a, Way b, boolean anyUrgent) {
        if (anyUrgent && a.card.urgent != b.card.urgent) {
            return a.card.urgent;
        }
        if (a.card.day != b.card.day) {
            return a.card.day < b.card.day;
        }
        return a.card.number < b.card.number;
    }

    private void workColumn(Story story, Terms t, int k, int day, boolean anyUrgent) {
        List<Way> row = new ArrayList<>();
        for (Way w : story.ways) {
            if (w.place == k && !w.through) {
                row.add(w);
            }
        }
        row.sort((a, b) -> anyUrgent && a.card.urgent != b.card.urgent
                ? (a.card.urgent ? -1 : 1) : Integer.compare(a.wentIn, b.wentIn));
        int hands = t.of[2][k];
        for (Way w : row) {
            int units = 0;
            while (units < t.of[3][0] && hands > 0 && w.left > 0) {
                units++;
                hands--;
                w.left--;
                w.hadUnit = true;
            }
            if (w.left == 0) {
                w.becameThrough = true;
                w.through = true;
                if (w.card.r == k && !w.wentBack) {
                    w.wentBack = true;
                    w.nextColumn = w.card.q;
                } else if (k == n - 1) {
                    w.place = DONE;
                    w.doneOn = day;
                } else {
                    w.nextColumn = k + 1;
                }
            }
        }
    }

    private int reason(Story story, Way w, int day) {
        if (w.place == NONE || w.doneOn != NONE && w.doneOn < day) {
            return NONE;
        }
        if (w.hadUnit || w.becameThrough) {
            return 1;
        }
        if (waiting(story, w, day)) {
            return 2;
        }
        if (w.place == AHEAD || w.through && !w.pulled) {
            return 3;
        }
        return 4;
    }

    int told(int c, int what, boolean other) {
        if (!isCard(c) || !in(what, 0, 5)) {
            return NONE;
        }
        Story story = story(other);
        Way w = story.ways.get(c);
        if (what < 2) {
            return what == 0 ? w.doneOn : story.age(w);
        }
        int days = 0;
        for (int day = 0; day < story.length; day++) {
            days += w.reasons.get(day) == what - 1 ? 1 : 0;
        }
        return days;
    }

    int at(int c, int day, boolean other) {
        if (!isCard(c) || !in(day, 0, 3000)) {
            return NONE;
        }
        Story story = story(other);
        return story.ways.get(c).places.get(story.day(day));
    }

    int reason(int c, int day, boolean other) {
        if (!isCard(c) || !in(day, 0, 3000)) {
            return NONE;
        }
        Story story = story(other);
        return story.ways.get(c).reasons.get(story.day(day));
    }

    int counts(int day, int what, boolean other) {
        if (!in(day, 0, 3000) || !in(what, 0, 3) && !in(what, 10, 9 + n)) {
            return NONE;
        }
        int count = 0;
        for (Way w : story(other).ways) {
            boolean come = w.card.day <= day;
            boolean done = w.doneOn != NONE && w.doneOn <= day;
            boolean doneAhead = w.doneOn != NONE && w.doneOn < day;
            boolean counts;
            switch (what) {
                case 0:
                    counts = come;
                    break;
                case 1:
                    counts = done;
                    break;
                case 2:
                    counts = come && !done;
                    break;
                case 3:
                    counts = come && !doneAhead;
                    break;
                default:
                    counts = at(w.card.number, day, other) == what - 10;
                    break;
            }
            count += counts ? 1 : 0;
        }
        return count;
    }

    int length(int what, boolean other) {
        Story story = story(other);
        switch (what) {
            case 0:
                return story.length;
            case 1:
                return story.all() ? NONE : story.lastActive + 1;
            case 2:
                return story.all() ? story.ages(true) : NONE;
            default:
                return NONE;
        }
    }

    int differ() {
        Story a = story(false);
        Story b = story(true);
        for (int day = 0; day <= Math.max(a.length, b.length); day++) {
            for (int c = 0; c < cards.size(); c++) {
                Way v = a.ways.get(c);
                Way w = b.ways.get(c);
                if (!v.places.get(a.day(day)).equals(w.places.get(b.day(day)))
                        || !v.lefts.get(a.day(day)).equals(w.lefts.get(b.day(day)))) {
                    return day;
                }
            }
        }
        return NONE;
    }

    int promise(int share, boolean other) {
        Story story = story(other);
        if (!in(share, 1, 100) || story.done() == 0) {
            return NONE;
        }
        for (int age = 1; ; age++) {
            int n = 0;
            for (Way w : story.ways) {
                n += w.doneOn != NONE && story.age(w) <= age ? 1 : 0;
            }
            if (n * 100 >= share * story.done()) {
                return age;
            }
        }
    }

    /** The least sum, then the limits of the columns; null if there are none. */
    private int[] bestOf(int m) {
        int[] best = null;
        Terms t = terms(false);
        int[] limit = t.of[0];
        for (int i = 0; i < Math.pow(m, n); i++) {
            int rest = i;
            for (int k = n - 1; k >= 0; k--) {
                limit[k] = 1 + rest % m;
                rest /= m;
            }
            Story story = tell(t, true);
            if (story.all() && (best == null || story.ages(true) < best[0])) {
                best = new int[] {story.ages(true), limit[0], limit[1], limit[2], limit[3]};
            }
        }
        return best;
    }

    int best(int m) {
        int[] best = in(m, 1, 4) ? bestOf(m) : null;
        return best == null ? NONE : best[0];
    }

    int bestLimit(int m, int k) {
        int[] best = in(m, 1, 4) && in(k, 0, n - 1) ? bestOf(m) : null;
        return best == null ? NONE : best[1 + k];
    }

    int cost() {
        Story run = story(false);
        Story calm = tell(terms(false), false);
        return run.all() && calm.all() ? run.ages(false) - calm.ages(false) : -100000;
    }

    int about(int what) {
        int[] answers = {n, cards.size(), terms.of[3][0], terms(true).of[3][0]};
        return in(what, 0, 3) ? answers[what] : NONE;
    }
}
