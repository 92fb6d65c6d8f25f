import java.util.NoSuchElementException;

/**
 * An office for things that were found and are looked for; DOC.md says what each call promises.
 * Every row is made with the object and used again, so that no call makes anything.
 */
public final class FoundOffice {
    public static final int NONE = -1;

    private static final int TOO_LARGE = -2;
    private static final int READY = 0;

    private static final int MOST_QUESTIONS = 16;
    private static final int MOST_WEIGHT = 100;
    private static final int TABLE = 0;
    private static final int SIZE = 1;
    private static final int SPAN = 2;
    private static final int MOST_TABLE = 40;
    private static final int MOST_TENTHS = 10;
    private static final int MOST_SIZE = 30000;
    private static final int SPAN_BASE = 100;
    private static final int STRENGTH_UNIT = 12;

    /** How many things there are at most, and how many reports. */
    private static final int MOST_ENTRIES = 60;
    private static final int MOST_PERSON = 999;
    private static final int NOBODY = 0;
    private static final int KINDS = 6;
    private static final int BAG = 1;
    private static final int WORTH = 3;
    private static final int PERISH = 4;
    private static final int MOST_KIND_DAYS = 1000;
    private static final int MOST_DAYS = 100;

    private static final int BY_CLAIM = 1;
    private static final int TO_FINDER = 2;
    private static final int GIVEN_AWAY = 3;
    private static final int SOLD = 4;

    private static final int MOST_CLAIMS = 100;
    private static final int STANDS = 0;
    private static final int PROVED = 1;
    private static final int WITHDRAWN = 2;
    private static final int REFUSED = 3;
    private static final int GIVEN = 4;
    private static final int LOST = 5;

    private static final int MOST_GROUP_REPORTS = 10;
    private static final int MOST_GROUP_THINGS = 20;
    private static final int MOST_PARTED = 12;

    private final Questions questions;
    private final Rows reportRows;
    private final Rows thingRows;
    private final Reports reports;
    private final Things things;
    private final Claims claims;
    private final Match match;
    private final Group groups;
    private final Asking asking;
    private final int[] kindDays;
    private final int[] openedBags;
    private int today;

    public FoundOffice() {
        questions = new Questions();
        reportRows = new Rows();
        thingRows = new Rows();
        reports = new Reports();
        things = new Things();
        claims = new Claims();
        match = new Match(questions, reportRows, thingRows, things);
        groups = new Group(match, reports);
        asking = new Asking(questions, thingRows);
        kindDays = new int[] {30, 30, 10, 60, 1, 10};
        openedBags = new int[MOST_ENTRIES];
        today = 0;
    }

    public int question(int sort, int n, int weight) {
        return questions.add(sort, n, weight);
    }

    public boolean may(int q, int a, int b, boolean is) {
        return questions.tellOfTable(q, a, b, is);
    }

    public int mays(int q, int a, int b) {
        if (!questions.isAnswer(q, a) || !questions.isAnswer(q, b)) {
            return NONE;
        }
        return questions.agree(q, a, b) ? 1 : 0;
    }

    public int thing(int kind, int finder, boolean wants, int bag) {
        if (kind < 0 || kind >= KINDS || finder < NOBODY || finder > MOST_PERSON) {
            return NONE;
        }
        if (bag != NONE && !things.isBagHere(bag)) {
            return NONE;
        }
        return things.add(kind, finder, wants, bag);
    }

    public int report(int person) {
        return reports.add(person);
    }

    public boolean mark(boolean report, int x, int q, int a) {
        if (!isThere(report, x) || !questions.has(q)) {
            return false;
        }
        if (a != NONE && !questions.isAnswer(q, a)) {
            return false;
        }
        rowsOf(report).put(x, q, a);
        return true;
    }

    public boolean tear(boolean report, int x, int n) {
        return isThere(report, x) && rowsOf(report).cut(x, n);
    }

    public int known(boolean report, int x, int q) {
        return isThere(report, x) ? rowsOf(report).answerOf(x, q) : NONE;
    }

    public int length(boolean report, int x) {
        return isThere(report, x) ? rowsOf(report).lengthOf(x) : NONE;
    }

    private boolean isThere(boolean report, int x) {
        return report ? reports.has(x) : things.has(x);
    }

    private Rows rowsOf(boolean report) {
        return report ? reportRows : thingRows;
    }

    public int fits(int r, int t) {
        if (!arePair(r, t)) {
            return NONE;
        }
        return match.isFit(r, t) ? 1 : 0;
    }

    public int tells(int r, int t) {
        return arePair(r, t) ? match.firstClash(r, t) : NONE;
    }

    public int strength(int r, int t) {
        return arePair(r, t) ? match.strengthOf(r, t) : NONE;
    }

    private boolean arePair(int r, int t) {
        return reports.has(r) && things.has(t);
    }

    public int fitting(int r) {
        return reports.has(r) ? Long.bitCount(match.fitSet(r)) : NONE;
    }

    public int fit(int r, int k) {
        if (!reports.has(r) || k < 0) {
            return NONE;
        }
        long set = match.fitSet(r);
        int left = k;
        for (int t = 0; t < MOST_ENTRIES; t++) {
            if (isIn(set, t)) {
                if (left == 0) {
                    return t;
                }
                left--;
            }
        }
        return NONE;
    }

    /** Sets of things and of reports are bits of a long: there are at most 60 of either. */
    private static boolean isIn(long set, int x) {
        return (set >> x & 1L) != 0L;
    }

    public int best(int r) {
        int told = matchGroup(r);
        return told == READY ? groups.givenTo(r) : told;
    }

    public int sum(int r) {
        int told = matchGroup(r);
        return told == READY ? groups.strengthSum() : told;
    }

    public int also(int r) {
        int told = matchGroup(r);
        if (told != READY) {
            return told;
        }
        int t = groups.givenTo(r);
        return t == NONE ? NONE : match.countAsStrong(r, match.strengthOf(r, t));
    }

    /** READY, or what a call is to answer for want of a best way. */
    private int matchGroup(int r) {
        if (!reports.isOpen(r)) {
            return NONE;
        }
        groups.gather(r);
        if (groups.isTooLarge()) {
            return TOO_LARGE;
        }
        groups.findBestWay();
        return READY;
    }

    public int group(int r, int what) {
        if (!reports.isOpen(r) || what < 0 || what > 1) {
            return NONE;
        }
        groups.gather(r);
        return what == 0 ? groups.reportCount() : groups.thingCount();
    }

    public int like(int a, int b) {
        if (!things.has(a) || !things.has(b)) {
            return NONE;
        }
        return asking.isAlike(a, b) ? 1 : 0;
    }

    public int parts(int r, int q) {
        if (!reports.has(r) || !questions.has(q)) {
            return NONE;
        }
        return asking.countClasses(match.fitSet(r), q);
    }

    public int ask(int r) {
        return reports.has(r) ? asking.mostParting(match.fitSet(r)) : NONE;
    }

    public int fewest(int r) {
        if (!reports.has(r)) {
            return NONE;
        }
        long set = match.fitSet(r);
        return Long.bitCount(set) > MOST_PARTED ? TOO_LARGE : asking.neededFor(set);
    }

    public int claim(int r, int t) {
        if (!reports.isOpen(r)) {
            return -1;
        }
        if (!things.has(t)) {
            return -2;
        }
        if (!things.isHere(t)) {
            return -3;
        }
        if (!match.isFit(r, t)) {
            return -4;
        }
        if (claims.isClaimedBy(r, t)) {
            return -5;
        }
        return claims.isFull() ? -6 : claims.add(r, t);
    }

    public int prove(int c, int q, int a) {
        if (!claims.isStanding(c)) {
            return 1;
        }
        if (!questions.has(q)) {
            return 2;
        }
        if (reportRows.answerOf(claims.reportOf(c), q) != NONE) {
            return 3;
        }
        int right = thingRows.answerOf(claims.thingOf(c), q);
        if (right == NONE) {
            return 4;
        }
        if (a != right) {
            claims.finish(c, REFUSED);
            return 5;
        }
        claims.setProved(c);
        return 0;
    }

    public int give(int c) {
        if (!claims.isStanding(c)) {
            return 1;
        }
        if (claims.stateOf(c) != PROVED) {
            return 2;
        }
        int r = claims.reportOf(c);
        int t = claims.thingOf(c);
        if (claims.isProvedAhead(c, t)) {
            return 3;
        }
        if (!match.isFit(r, t)) {
            return 4;
        }
        if (things.kindOf(t) == WORTH && claims.isFirstAsked(c)) {
            return 5;
        }
        claims.finish(c, GIVEN);
        shut(r);
        sendWithContents(t, reports.personOf(r), BY_CLAIM);
        return 0;
    }

    public boolean withdraw(int c) {
        if (!claims.isStanding(c)) {
            return false;
        }
        claims.finish(c, WITHDRAWN);
        return true;
    }

    public boolean close(int r) {
        if (!reports.isOpen(r)) {
            return false;
        }
        shut(r);
        return true;
    }

    private void shut(int r) {
        reports.shut(r);
        claims.finishAllOf(r, WITHDRAWN);
    }

    public int claimed(int c, int what) throws NoSuchElementException {
        if (!claims.has(c)) {
            throw new NoSuchElementException("no such claim");
        }
        switch (what) {
            case 0:
                return claims.stateOf(c);
            case 1:
                return claims.reportOf(c);
            case 2:
                return claims.thingOf(c);
            default:
                throw new NoSuchElementException("nothing of that number is told of a claim");
        }
    }

    public boolean into(int t, int bag) {
        if (!things.isHere(t)) {
            return false;
        }
        if (bag != NONE && (!things.isBagHere(bag) || things.holds(t, bag))) {
            return false;
        }
        things.moveTo(t, bag);
        return true;
    }

    public int place(int t, int what) throws NoSuchElementException {
        if (!things.has(t)) {
            throw new NoSuchElementException("no such thing");
        }
        switch (what) {
            case 0:
                return things.whereOf(t);
            case 1:
                return things.bagOf(t);
            case 2:
                return things.ageOf(t);
            case 3:
                return things.kindOf(t);
            case 4:
                return things.finderOf(t);
            case 5:
                return things.takerOf(t);
            case 6:
                return things.outDayOf(t);
            case 7:
                return things.whyOf(t);
            case 8:
                return things.countInside(t);
            case 9:
                return claims.standingOn(t);
            default:
                throw new NoSuchElementException("nothing of that number is told of a thing");
        }
    }

    public boolean days(int kind, int n) {
        if (kind < 0 || kind >= kindDays.length || n < 1 || n > MOST_KIND_DAYS) {
            return false;
        }
        kindDays[kind] = n;
        return true;
    }

    public int day(int n) {
        if (n < 0 || n > MOST_DAYS) {
            return NONE;
        }
        int before = things.goneCount();
        for (int i = 0; i < n; i++) {
            passDay();
        }
        return things.goneCount() - before;
    }

    private void passDay() {
        today++;
        for (int t = 0; t < things.size(); t++) {
            if (things.whereOf(t) == Things.ON_SHELF && claims.standingOn(t) == 0) {
                ripen(t);
            }
        }
    }

    private void ripen(int t) {
        int kind = things.kindOf(t);
        int age = things.growOlder(t);
        if (kind < 0 || kind >= kindDays.length || age < kindDays[kind]) {
            return;
        }
        if (things.isWantedByFinder(t)) {
            sendWithContents(t, things.finderOf(t), TO_FINDER);
        } else {
            sendWithContents(t, NOBODY, kind == PERISH ? GIVEN_AWAY : SOLD);
        }
    }

    /**
     * Bags are opened on a stack, not by recursion, since up to sixty may lie in one another; what is
     * inside is always the first that is still there, since each of them leaves the bag.
     * A claim that stands on a thing inside is always another report's than the one that is given
     * the bag: that one's claims have ended before.
     */
    private void sendWithContents(int first, int person, int why) {
        sendOut(first, person, why);
        int open = 1;
        openedBags[0] = first;
        int most = 2 * MOST_ENTRIES;
        for (int step = 0; step < most && open > 0; step++) {
            int t = things.firstInside(openedBags[open - 1]);
            if (t == NONE) {
                open--;
                continue;
            }
            if (claims.standingOn(t) > 0) {
                things.moveTo(t, NONE);
                continue;
            }
            sendOut(t, person, why);
            if (open < openedBags.length) {
                openedBags[open] = t;
                open++;
            }
        }
    }

    private void sendOut(int t, int person, int why) {
        claims.finishAllOn(t, LOST);
        things.leave(t, person, today, why);
    }

    public int count(int what) {
        switch (what) {
            case 0:
                return today;
            case 1:
                return questions.size();
            case 2:
                return things.size();
            case 3:
                return reports.size();
            case 4:
                return reports.openCount();
            case 5:
                return claims.size();
            case 6:
                return claims.standingCount();
            case 7:
                return things.countPlaced(Things.ON_SHELF);
            case 8:
                return things.countPlaced(Things.INSIDE);
            case 9:
                return things.countPlaced(Things.OUT);
            default:
                return what >= 10 && what <= 13 ? things.countWhy(what - 9) : NONE;
        }
    }

    public int gone(int k) {
        return things.goneAt(k);
    }

    /** The questions, and which of their answers may be of one thing. */
    static final class Questions {
        private final int[] sorts = new int[MOST_QUESTIONS];
        private final int[] numbers = new int[MOST_QUESTIONS];
        private final int[] weights = new int[MOST_QUESTIONS];
        /** Of table q and answer a, at 40 q + a: a bit for each answer that may be of one thing with it. */
        private final long[] toldAlike = new long[MOST_QUESTIONS * MOST_TABLE];
        private int size = 0;

        int size() {
            return size;
        }

        boolean has(int q) {
            return q >= 0 && q < size;
        }

        int weightOf(int q) {
            return has(q) ? weights[q] : 0;
        }

        int add(int sort, int n, int weight) {
            if (size >= MOST_QUESTIONS || !isNumberOf(sort, n)) {
                return NONE;
            }
            if (weight < 1 || weight > MOST_WEIGHT) {
                return NONE;
            }
            int q = size;
            sorts[q] = sort;
            numbers[q] = n;
            weights[q] = weight;
            size = q + 1;
            return q;
        }

        private static boolean isNumberOf(int sort, int n) {
            switch (sort) {
                case TABLE:
                    return n >= 1 && n <= MOST_TABLE;
                case SIZE:
                    return n >= 0 && n <= MOST_TENTHS;
                default:
                    return sort == SPAN && n == 0;
            }
        }

        boolean isAnswer(int q, int a) {
            if (q < 0 || q >= size || a < 0) {
                return false;
            }
            switch (sorts[q]) {
                case TABLE:
                    return a < numbers[q];
                case SIZE:
                    return a <= MOST_SIZE;
                default:
                    return a < SPAN_BASE * SPAN_BASE && a / SPAN_BASE <= a % SPAN_BASE;
            }
        }

        boolean tellOfTable(int q, int a, int b, boolean is) {
            if (!isAnswer(q, a) || !isAnswer(q, b) || sorts[q] != TABLE) {
                return false;
            }
            if (a == b) {
                return is;
            }
            tellOneWay(q * MOST_TABLE + a, b, is);
            tellOneWay(q * MOST_TABLE + b, a, is);
            return true;
        }

        private void tellOneWay(int at, int other, boolean is) {
            if (at < 0 || at >= toldAlike.length) {
                return;
            }
            long bit = 1L << other;
            toldAlike[at] = is ? toldAlike[at] | bit : toldAlike[at] & ~bit;
        }

        /** False, too, for what is no answer to q. */
        boolean agree(int q, int a, int b) {
            if (!isAnswer(q, a) || !isAnswer(q, b)) {
                return false;
            }
            switch (sorts[q]) {
                case TABLE:
                    return a == b || (toldAlike[q * MOST_TABLE + a] >> b & 1L) != 0L;
                case SIZE:
                    int greater = Math.max(a, b);
                    return 10 * (greater - Math.min(a, b)) <= numbers[q] * greater;
                default:
                    return a / SPAN_BASE <= b % SPAN_BASE && b / SPAN_BASE <= a % SPAN_BASE;
            }
        }
    }

    /** The rows of answers, of all things or of all reports; a missing one has the length NONE. */
    static final class Rows {
        private final int[] lengths = new int[MOST_ENTRIES];
        /** The questions that each one knows, as bits; the answers at other places mean nothing. */
        private final int[] knownSets = new int[MOST_ENTRIES];
        private final int[] answers = new int[MOST_ENTRIES * MOST_QUESTIONS];

        Rows() {
            for (int x = 0; x < lengths.length; x++) {
                lengths[x] = NONE;
                knownSets[x] = 0;
            }
        }

        private static boolean isRow(int x) {
            return x >= 0 && x < MOST_ENTRIES;
        }

        int lengthOf(int x) {
            return isRow(x) ? lengths[x] : NONE;
        }

        int knownSetOf(int x) {
            return isRow(x) ? knownSets[x] : 0;
        }

        int answerOf(int x, int q) {
            if (!isRow(x) || q < 0 || q >= MOST_QUESTIONS || (knownSets[x] >> q & 1) == 0) {
                return NONE;
            }
            return answers[x * MOST_QUESTIONS + q];
        }

        void put(int x, int q, int a) {
            if (!isRow(x) || q < 0 || q >= MOST_QUESTIONS) {
                return;
            }
            int bit = 1 << q;
            knownSets[x] = a == NONE ? knownSets[x] & ~bit : knownSets[x] | bit;
            answers[x * MOST_QUESTIONS + q] = a;
            lengths[x] = Math.max(lengths[x], q + 1);
        }

        boolean cut(int x, int n) {
            if (!isRow(x) || lengths[x] == NONE || n < NONE || n > lengths[x]) {
                return false;
            }
            lengths[x] = n;
            knownSets[x] &= (1 << Math.max(n, 0)) - 1;
            return true;
        }
    }

    /** The reports' persons, and which reports are open. */
    static final class Reports {
        private final int[] persons = new int[MOST_ENTRIES];
        private final boolean[] open = new boolean[MOST_ENTRIES];
        private int size = 0;

        int size() {
            return size;
        }

        boolean has(int r) {
            return r >= 0 && r < size;
        }

        boolean isOpen(int r) {
            return has(r) && open[r];
        }

        int personOf(int r) {
            return has(r) ? persons[r] : NONE;
        }

        int add(int person) {
            if (size >= MOST_ENTRIES || person < 1 || person > MOST_PERSON) {
                return NONE;
            }
            int r = size;
            persons[r] = person;
            open[r] = true;
            size = r + 1;
            return r;
        }

        void shut(int r) {
            if (has(r)) {
                open[r] = false;
            }
        }

        int openCount() {
            int n = 0;
            for (int r = 0; r < size; r++) {
                if (open[r]) {
                    n++;
                }
            }
            return n;
        }
    }

    /** The things: what they are, where they are, and in which order they went out. */
    static final class Things {
        static final int ON_SHELF = 0;
        static final int INSIDE = 1;
        static final int OUT = 2;

        private final int[] kinds = new int[MOST_ENTRIES];
        private final int[] finders = new int[MOST_ENTRIES];
        private final boolean[] wanted = new boolean[MOST_ENTRIES];
        private final int[] bags = new int[MOST_ENTRIES];
        private final int[] ages = new int[MOST_ENTRIES];
        private final int[] takers = new int[MOST_ENTRIES];
        private final int[] outDays = new int[MOST_ENTRIES];
        /** NONE while a thing is not out. */
        private final int[] whys = new int[MOST_ENTRIES];
        private final int[] wentOut = new int[MOST_ENTRIES];
        private int size = 0;
        private int outCount = 0;

        int size() {
            return size;
        }

        boolean has(int t) {
            return t >= 0 && t < size;
        }

        boolean isHere(int t) {
            return t >= 0 && t < size && whys[t] == NONE;
        }

        boolean isBagHere(int t) {
            return isHere(t) && kinds[t] == BAG;
        }

        int add(int kind, int finder, boolean wants, int bag) {
            if (size >= MOST_ENTRIES) {
                return NONE;
            }
            int t = size;
            kinds[t] = kind;
            finders[t] = finder;
            wanted[t] = wants;
            bags[t] = bag;
            ages[t] = 0;
            takers[t] = NONE;
            outDays[t] = NONE;
            whys[t] = NONE;
            size = t + 1;
            return t;
        }

        int whereOf(int t) {
            if (!isHere(t)) {
                return OUT;
            }
            return bags[t] == NONE ? ON_SHELF : INSIDE;
        }

        int kindOf(int t) {
            return has(t) ? kinds[t] : NONE;
        }

        int finderOf(int t) {
            return has(t) ? finders[t] : NONE;
        }

        boolean isWantedByFinder(int t) {
            return has(t) && wanted[t] && finders[t] != NOBODY;
        }

        int bagOf(int t) {
            return has(t) ? bags[t] : NONE;
        }

        int ageOf(int t) {
            return has(t) ? ages[t] : NONE;
        }

        int takerOf(int t) {
            return has(t) ? takers[t] : NONE;
        }

        int outDayOf(int t) {
            return has(t) ? outDays[t] : NONE;
        }

        int whyOf(int t) {
            return has(t) ? whys[t] : NONE;
        }

        int growOlder(int t) {
            if (!has(t)) {
                return NONE;
            }
            ages[t]++;
            return ages[t];
        }

        void moveTo(int t, int bag) {
            if (has(t)) {
                bags[t] = bag;
            }
        }

        /** Whether the inner one is the outer one, or inside it at any depth. */
        boolean holds(int outer, int inner) {
            int at = inner;
            for (int step = 0; step < MOST_ENTRIES && at != NONE; step++) {
                if (at == outer) {
                    return true;
                }
                at = bagOf(at);
            }
            return false;
        }

        int firstInside(int bag) {
            for (int t = 0; t < size; t++) {
                if (bags[t] == bag) {
                    return t;
                }
            }
            return NONE;
        }

        int countInside(int bag) {
            int n = 0;
            for (int t = 0; t < size; t++) {
                if (bags[t] == bag) {
                    n++;
                }
            }
            return n;
        }

        void leave(int t, int person, int day, int why) {
            if (!isHere(t) || outCount >= MOST_ENTRIES) {
                return;
            }
            bags[t] = NONE;
            takers[t] = person;
            outDays[t] = day;
            whys[t] = why;
            wentOut[outCount] = t;
            outCount++;
        }

        int goneCount() {
            return outCount;
        }

        int goneAt(int k) {
            return k >= 0 && k < outCount ? wentOut[k] : NONE;
        }

        int countPlaced(int where) {
            int n = 0;
            for (int t = 0; t < size; t++) {
                if (whereOf(t) == where) {
                    n++;
                }
            }
            return n;
        }

        int countWhy(int why) {
            int n = 0;
            for (int t = 0; t < size; t++) {
                if (whys[t] == why) {
                    n++;
                }
            }
            return n;
        }
    }

    /** The claims, and how many of them stand on each thing. */
    static final class Claims {
        private final int[] claimants = new int[MOST_CLAIMS];
        private final int[] targets = new int[MOST_CLAIMS];
        private final int[] states = new int[MOST_CLAIMS];
        /** Whether a claim came so far that only the worth of its thing held it back. */
        private final boolean[] heldBack = new boolean[MOST_CLAIMS];
        private final int[] standing = new int[MOST_ENTRIES];
        private int size = 0;

        int size() {
            return size;
        }

        boolean has(int c) {
            return c >= 0 && c < size;
        }

        boolean isFull() {
            return size >= MOST_CLAIMS;
        }

        boolean isStanding(int c) {
            return c >= 0 && c < size && states[c] <= PROVED;
        }

        int stateOf(int c) {
            return has(c) ? states[c] : NONE;
        }

        int reportOf(int c) {
            return has(c) ? claimants[c] : NONE;
        }

        int thingOf(int c) {
            return has(c) ? targets[c] : NONE;
        }

        int standingOn(int t) {
            return isTarget(t) ? standing[t] : 0;
        }

        private boolean isTarget(int t) {
            return t >= 0 && t < standing.length;
        }

        int standingCount() {
            int n = 0;
            for (int t = 0; t < standing.length; t++) {
                n += standing[t];
            }
            return n;
        }

        int add(int r, int t) {
            if (isFull() || !isTarget(t)) {
                return NONE;
            }
            int c = size;
            claimants[c] = r;
            targets[c] = t;
            states[c] = STANDS;
            heldBack[c] = false;
            standing[t]++;
            size = c + 1;
            return c;
        }

        boolean isClaimedBy(int r, int t) {
            for (int c = 0; c < size; c++) {
                if (isStanding(c) && claimants[c] == r && targets[c] == t) {
                    return true;
                }
            }
            return false;
        }

        boolean isProvedAhead(int c, int t) {
            for (int i = 0; i < c && i < size; i++) {
                if (states[i] == PROVED && targets[i] == t) {
                    return true;
                }
            }
            return false;
        }

        boolean isFirstAsked(int c) {
            if (!has(c) || heldBack[c]) {
                return false;
            }
            heldBack[c] = true;
            return true;
        }

        void setProved(int c) {
            if (isStanding(c)) {
                states[c] = PROVED;
            }
        }

        void finish(int c, int state) {
            if (c < 0 || c >= size || states[c] > PROVED) {
                return;
            }
            states[c] = state;
            int t = targets[c];
            if (t >= 0 && t < standing.length) {
                standing[t]--;
            }
        }

        void finishAllOf(int r, int state) {
            for (int c = 0; c < size; c++) {
                if (claimants[c] == r) {
                    finish(c, state);
                }
            }
        }

        void finishAllOn(int t, int state) {
            for (int c = 0; c < size; c++) {
                if (targets[c] == t) {
                    finish(c, state);
                }
            }
        }
    }

    /** How one report and one thing go together. */
    static final class Match {
        private final Questions questions;
        private final Rows reportRows;
        private final Rows thingRows;
        private final Things things;
        /** What each answer of the thing that was weighed last is worth; it serves all reports. */
        private final int[] worths = new int[MOST_QUESTIONS];

        Match(Questions questions, Rows reportRows, Rows thingRows, Things things) {
            this.questions = questions;
            this.reportRows = reportRows;
            this.thingRows = thingRows;
            this.things = things;
        }

        int firstClash(int r, int t) {
            int both = reportRows.knownSetOf(r) & thingRows.knownSetOf(t);
            for (int q = 0; q < MOST_QUESTIONS && both >> q != 0; q++) {
                if ((both >> q & 1) != 0 && !questions.agree(q, reportRows.answerOf(r, q), thingRows.answerOf(t, q))) {
                    return q;
                }
            }
            return NONE;
        }

        boolean isFit(int r, int t) {
            return firstClash(r, t) == NONE;
        }

        /** The things that are not out and that a report fits. */
        long fitSet(int r) {
            long set = 0L;
            for (int t = 0; t < things.size(); t++) {
                if (things.isHere(t) && firstClash(r, t) == NONE) {
                    set |= 1L << t;
                }
            }
            return set;
        }

        void weigh(int t) {
            for (int q = 0; q < worths.length; q++) {
                int a = thingRows.answerOf(t, q);
                int holders = a == NONE ? 0 : countHolders(t, q, a);
                worths[q] = holders > 0 ? questions.weightOf(q) * STRENGTH_UNIT / holders : 0;
            }
        }

        /** The thing itself counts, even if it is out. */
        private int countHolders(int t, int q, int a) {
            int n = 1;
            for (int other = 0; other < things.size(); other++) {
                if (other != t && things.isHere(other) && thingRows.answerOf(other, q) == a) {
                    n++;
                }
            }
            return n;
        }

        /** The strength of a report and the thing that was weighed last, which it fits. */
        int addWorths(int r) {
            int strength = 0;
            for (int q = 0; q < worths.length; q++) {
                if (reportRows.answerOf(r, q) != NONE) {
                    strength += worths[q];
                }
            }
            return strength;
        }

        int strengthOf(int r, int t) {
            if (!isFit(r, t)) {
                return NONE;
            }
            weigh(t);
            return addWorths(r);
        }

        int countAsStrong(int r, int least) {
            long set = fitSet(r);
            int n = 0;
            for (int t = 0; t < MOST_ENTRIES; t++) {
                if (isIn(set, t) && strengthOf(r, t) >= least) {
                    n++;
                }
            }
            return n;
        }
    }

    /** One report's group, gathered anew for each call, and its best way. */
    static final class Group {
        private final Match match;
        private final Reports reports;
        private final Assignment assignment = new Assignment();
        private final long[] fitSets = new long[MOST_ENTRIES];
        private final int[] members = new int[MOST_ENTRIES];
        private final int[] goods = new int[MOST_ENTRIES];
        private int reportCount = 0;
        private int thingCount = 0;

        Group(Match match, Reports reports) {
            this.match = match;
            this.reports = reports;
        }

        int reportCount() {
            return reportCount;
        }

        int thingCount() {
            return thingCount;
        }

        boolean isTooLarge() {
            return reportCount > MOST_GROUP_REPORTS || thingCount > MOST_GROUP_THINGS;
        }

        void gather(int r) {
            reportCount = 0;
            thingCount = 0;
            if (!reports.isOpen(r) || r >= fitSets.length) {
                return;
            }
            for (int other = 0; other < reports.size() && other < fitSets.length; other++) {
                fitSets[other] = reports.isOpen(other) ? match.fitSet(other) : 0L;
            }
            listMembers(hangTogether(r));
        }

        /** Each round but the last takes in a report, so that there are no more rounds than reports. */
        private long hangTogether(int r) {
            long inside = 1L << r;
            long shared = fitSets[r];
            boolean grows = true;
            for (int round = 0; round < MOST_ENTRIES && grows; round++) {
                grows = false;
                for (int other = 0; other < reports.size() && other < fitSets.length; other++) {
                    if (!isIn(inside, other) && (fitSets[other] & shared) != 0L) {
                        inside |= 1L << other;
                        shared |= fitSets[other];
                        grows = true;
                    }
                }
            }
            return inside;
        }

        private void listMembers(long inside) {
            long shared = 0L;
            for (int r = 0; r < MOST_ENTRIES; r++) {
                if (isIn(inside, r)) {
                    members[reportCount] = r;
                    reportCount++;
                    shared |= fitSets[r];
                }
            }
            for (int t = 0; t < MOST_ENTRIES; t++) {
                if (isIn(shared, t)) {
                    goods[thingCount] = t;
                    thingCount++;
                }
            }
        }

        /** For a group that is not too large. */
        void findBestWay() {
            if (isTooLarge()) {
                return;
            }
            assignment.start(reportCount, thingCount);
            for (int j = 0; j < thingCount; j++) {
                match.weigh(goods[j]);
                for (int i = 0; i < reportCount; i++) {
                    int r = members[i];
                    if (r >= 0 && r < fitSets.length && isIn(fitSets[r], goods[j])) {
                        assignment.allow(i, j, match.addWorths(r));
                    }
                }
            }
            assignment.solve();
        }

        int strengthSum() {
            int sum = 0;
            for (int i = 0; i < reportCount; i++) {
                sum += assignment.gainOf(i);
            }
            return sum;
        }

        int givenTo(int r) {
            for (int i = 0; i < reportCount; i++) {
                if (members[i] == r) {
                    int j = assignment.columnOf(i);
                    return j >= 0 && j < thingCount ? goods[j] : NONE;
                }
            }
            return NONE;
        }
    }

    /**
     * Gives each row a column or none, for the greatest sum of gains, by the Hungarian method.
     *
     * Of several such ways one is asked for, by the first row, then the second, and so on; so a cost
     * is the gain in units of TIE, and below that a digit (to the base 21) for each row, the greater
     * the lesser the column's number is: the sums of two ways are never alike then.
     * The greatest sum, 10 rows of 16 * 1200 each, times TIE stays below 2 to the 62nd.
     *
     * Behind the columns come as many that stand for none, and column 0 and row 0 for no such one.
     */
    static final class Assignment {
        private static final int ROWS = MOST_GROUP_REPORTS;
        private static final int COLUMNS = MOST_GROUP_THINGS + MOST_GROUP_REPORTS;
        private static final int WIDTH = COLUMNS + 1;
        private static final int BASE = MOST_GROUP_THINGS + 1;
        /** BASE to the power of ROWS. */
        private static final long TIE = 16679880978201L;
        private static final long FORBIDDEN = 1L << 60;
        private static final long FAR = 1L << 62;

        private final long[] costs = new long[(ROWS + 1) * WIDTH];
        private final int[] gains = new int[(ROWS + 1) * WIDTH];
        private final long[] rowPrices = new long[ROWS + 1];
        private final long[] columnPrices = new long[WIDTH];
        private final long[] slacks = new long[WIDTH];
        private final int[] cameFrom = new int[WIDTH];
        private final int[] holders = new int[WIDTH];
        private final boolean[] reached = new boolean[WIDTH];
        private int rows = 0;
        private int realColumns = 0;
        private int columns = 0;

        void start(int rowCount, int columnCount) {
            rows = Math.max(0, Math.min(rowCount, ROWS));
            realColumns = Math.max(0, Math.min(columnCount, MOST_GROUP_THINGS));
            columns = realColumns + rows;
            for (int at = 0; at < costs.length; at++) {
                costs[at] = at % WIDTH <= realColumns ? FORBIDDEN : 0L;
                gains[at] = 0;
            }
            for (int i = 0; i <= ROWS; i++) {
                rowPrices[i] = 0L;
            }
            for (int j = 0; j < WIDTH; j++) {
                columnPrices[j] = 0L;
                holders[j] = 0;
            }
        }

        /** Rows and columns are numbered from 0 on by the callers. */
        void allow(int row, int column, int gain) {
            if (row < 0 || row >= rows || column < 0 || column >= realColumns) {
                return;
            }
            long digit = MOST_GROUP_THINGS - column;
            for (int i = row + 1; i < ROWS; i++) {
                digit *= BASE;
            }
            int at = (row + 1) * WIDTH + column + 1;
            costs[at] = -(gain * TIE + digit);
            gains[at] = gain;
        }

        void solve() {
            for (int row = 1; row <= rows; row++) {
                holders[0] = row;
                passOn(reachFree());
            }
        }

        /** The column where the cheapest row of changes ends that gives the new row a column. */
        private int reachFree() {
            for (int j = 0; j < WIDTH; j++) {
                slacks[j] = FAR;
                reached[j] = false;
            }
            int at = 0;
            for (int step = 0; step <= columns && holderOf(at) != 0; step++) {
                reached[at] = true;
                lookFrom(at);
                at = nearest();
                changePrices(slacks[at]);
            }
            return at;
        }

        private int holderOf(int column) {
            if (column < 0 || column >= WIDTH || holders[column] < 0 || holders[column] > rows) {
                return 0;
            }
            return holders[column];
        }

        private void lookFrom(int column) {
            int row = holderOf(column);
            for (int j = 1; j <= columns; j++) {
                long slack = costs[row * WIDTH + j] - rowPrices[row] - columnPrices[j];
                if (!reached[j] && slack < slacks[j]) {
                    slacks[j] = slack;
                    cameFrom[j] = column;
                }
            }
        }

        /** There is always one: as many columns stand for none as there are rows. */
        private int nearest() {
            int found = 0;
            long least = FAR;
            for (int j = 1; j <= columns; j++) {
                if (!reached[j] && slacks[j] < least) {
                    least = slacks[j];
                    found = j;
                }
            }
            return found;
        }

        private void changePrices(long change) {
            for (int j = 0; j <= columns; j++) {
                if (reached[j]) {
                    rowPrices[holderOf(j)] += change;
                    columnPrices[j] -= change;
                } else {
                    slacks[j] -= change;
                }
            }
        }

        /** Each holder on the way takes over the next column, and the new row the first one. */
        private void passOn(int free) {
            int at = free;
            for (int step = 0; step <= columns && at > 0 && at < WIDTH; step++) {
                int from = cameFrom[at];
                holders[at] = holderOf(from);
                at = from;
            }
        }

        int columnOf(int row) {
            for (int j = 1; j <= realColumns; j++) {
                if (holders[j] == row + 1) {
                    return j - 1;
                }
            }
            return NONE;
        }

        int gainOf(int row) {
            int column = columnOf(row);
            if (row < 0 || row >= rows || column < 0 || column >= realColumns) {
                return 0;
            }
            return gains[(row + 1) * WIDTH + column + 1];
        }
    }

    /** Which questions part things. Those that do not know a question are a class by the answer NONE. */
    static final class Asking {
        private final Questions questions;
        private final Rows thingRows;
        /** One of each of the things that are like one another: more of them need no more questions. */
        private final int[] distinct = new int[MOST_PARTED];
        /** Of question q and distinct thing i, at 12 q + i: those of its class, a bit for each. */
        private final int[] classes = new int[MOST_QUESTIONS * MOST_PARTED];
        /** What is needed for a set of distinct things, 0 as long as that is not known. */
        private final int[] found = new int[1 << MOST_PARTED];
        private int distinctCount = 0;

        Asking(Questions questions, Rows thingRows) {
            this.questions = questions;
            this.thingRows = thingRows;
        }

        boolean isAlike(int a, int b) {
            for (int q = 0; q < questions.size(); q++) {
                if (thingRows.answerOf(a, q) != thingRows.answerOf(b, q)) {
                    return false;
                }
            }
            return true;
        }

        int countClasses(long set, int q) {
            int n = 0;
            for (int t = 0; t < MOST_ENTRIES; t++) {
                if (isIn(set, t) && isFirstOfClass(set, t, q)) {
                    n++;
                }
            }
            return n;
        }

        private boolean isFirstOfClass(long set, int t, int q) {
            int answer = thingRows.answerOf(t, q);
            for (int other = 0; other < t; other++) {
                if (isIn(set, other) && thingRows.answerOf(other, q) == answer) {
                    return false;
                }
            }
            return true;
        }

        int mostParting(long set) {
            int question = NONE;
            int most = 1;
            for (int q = 0; q < questions.size(); q++) {
                int n = countClasses(set, q);
                if (n > most) {
                    most = n;
                    question = q;
                }
            }
            return question;
        }

        /** For at most 12 things. */
        int neededFor(long set) {
            listDistinct(set);
            for (int q = 0; q < MOST_QUESTIONS; q++) {
                for (int i = 0; i < distinctCount; i++) {
                    classes[q * MOST_PARTED + i] = classOf(i, q);
                }
            }
            int sets = 1 << distinctCount;
            for (int i = 0; i < sets && i < found.length; i++) {
                found[i] = 0;
            }
            return search(sets - 1, 0);
        }

        private void listDistinct(long set) {
            distinctCount = 0;
            for (int t = 0; t < MOST_ENTRIES; t++) {
                if (isIn(set, t) && distinctCount < MOST_PARTED && !isListed(t)) {
                    distinct[distinctCount] = t;
                    distinctCount++;
                }
            }
        }

        private boolean isListed(int t) {
            for (int i = 0; i < distinctCount; i++) {
                if (isAlike(distinct[i], t)) {
                    return true;
                }
            }
            return false;
        }

        private int classOf(int i, int q) {
            int answer = thingRows.answerOf(distinct[i], q);
            int members = 0;
            for (int j = 0; j < distinctCount; j++) {
                if (thingRows.answerOf(distinct[j], q) == answer) {
                    members |= 1 << j;
                }
            }
            return members;
        }

        /** Some question parts any two of the set, and takes one at least out of each class. */
        private int search(int set, int depth) {
            int size = Integer.bitCount(set);
            if (size <= 1 || depth >= MOST_PARTED || set < 0 || set >= found.length) {
                return 0;
            }
            if (found[set] != 0) {
                return found[set];
            }
            int bound = lowerBound(set, size);
            int least = size;
            for (int q = 0; q < MOST_QUESTIONS && least > bound; q++) {
                least = Math.min(least, neededBehind(set, q, least, depth));
            }
            found[set] = least;
            return least;
        }

        /** What is needed if q is asked first, or the limit if that is not less. */
        private int neededBehind(int set, int q, int limit, int depth) {
            int needed = 0;
            int rest = set;
            for (int i = 0; i < distinctCount && rest != 0; i++) {
                if ((rest >> i & 1) == 0) {
                    continue;
                }
                int part = classes[q * MOST_PARTED + i] & rest;
                if (part == set) {
                    return limit;
                }
                needed = Math.max(needed, 1 + search(part, depth + 1));
                if (needed >= limit) {
                    return limit;
                }
                rest &= ~part;
            }
            return needed;
        }

        /** So many questions at least: each makes no more than the most classes out of one. */
        private int lowerBound(int set, int size) {
            int most = 2;
            for (int q = 0; q < MOST_QUESTIONS; q++) {
                most = Math.max(most, countParts(set, q));
            }
            int bound = 0;
            for (int parts = 1; parts < size && bound < MOST_PARTED; parts *= most) {
                bound++;
            }
            return bound;
        }

        private int countParts(int set, int q) {
            int n = 0;
            int rest = set;
            for (int i = 0; i < distinctCount && rest != 0; i++) {
                if ((rest >> i & 1) != 0) {
                    rest &= ~classes[q * MOST_PARTED + i];
                    n++;
                }
            }
            return n;
        }
    }
}
