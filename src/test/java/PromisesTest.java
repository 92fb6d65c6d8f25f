/** Each promise by its number: ordinary calls, the edges that the document names, and wrong ones. */
public final class PromisesTest {
    private static final int MAX = Make.MAX;
    private static final int MIN = Make.MIN;
    private static final int PLAIN = Make.PLAIN;
    private static final int BAG = Make.BAG;
    private static final int PAPER = Make.PAPER;
    private static final int WORTH = Make.WORTH;
    private static final int PERISH = Make.PERISH;
    private static final int KEY = Make.KEY;

    private PromisesTest() {
    }

    public static void main(String[] args) {
        newObject();
        question();
        may();
        mays();
        thing();
        report();
        mark();
        tear();
        knownAndLength();
        fitsAndTells();
        strength();
        fittingAndFit();
        best();
        bestOfSeveralWays();
        tooLarge();
        also();
        group();
        like();
        partsAndAsk();
        fewest();
        claim();
        claimsAreFull();
        prove();
        give();
        giveHeldBack();
        giveABag();
        giveOwnClaimsInside();
        withdraw();
        close();
        claimed();
        into();
        place();
        days();
        day();
        dayOpensBags();
        dayInItsOrder();
        count();
        gone();
        deepBags();
        noArgumentThrows();
        Check.end("PromisesTest");
    }

    private static void newObject() {
        FoundOffice x = new FoundOffice();
        for (int what = 0; what <= 13; what++) {
            Check.same("1 count " + what, x.count(what), 0);
        }
        Check.same("1 gone", x.gone(0), -1);
        Check.same("1 fits", x.fits(0, 0), -1);
        Check.same("1 mays", x.mays(0, 0, 0), -1);
        Check.same("1 NONE", FoundOffice.NONE, -1);
        FoundOffice other = new FoundOffice();
        x.report(1);
        Check.same("1 another office has rows of its own", other.count(3), 0);
    }

    private static void question() {
        FoundOffice x = new FoundOffice();
        int[][] wrong = {{0, 0, 1}, {0, 41, 1}, {0, -1, 1}, {1, -1, 1}, {1, 11, 1}, {2, 1, 1}, {2, -1, 1},
            {3, 0, 1}, {-1, 1, 1}, {0, 1, 0}, {0, 1, 101}, {0, 1, -1}, {0, MAX, 1}, {1, MIN, 1}, {MAX, 0, 1}};
        for (int[] w : wrong) {
            Check.same("2 wrong " + w[0] + " " + w[1] + " " + w[2], x.question(w[0], w[1], w[2]), -1);
        }
        Check.same("2 nothing changed", x.count(1), 0);
        int[][] right = {{0, 1, 1}, {0, 40, 100}, {1, 0, 1}, {1, 10, 100}, {2, 0, 50}};
        for (int i = 0; i < right.length; i++) {
            Check.same("2 right " + i, x.question(right[i][0], right[i][1], right[i][2]), i);
        }
        for (int q = right.length; q < 16; q++) {
            Check.same("2 question " + q, x.question(2, 0, 7), q);
        }
        Check.same("2 a seventeenth", x.question(2, 0, 7), -1);
        Check.same("2 count", x.count(1), 16);
    }

    private static void may() {
        FoundOffice x = Make.withTables(3, 40, 1);
        x.question(1, 1, 1);
        x.question(2, 0, 1);
        Check.yes("3 told", x.may(0, 0, 2, true));
        Check.same("3 both ways", x.mays(0, 0, 2) + x.mays(0, 2, 0), 2);
        Check.same("3 no other question", x.mays(1, 0, 2), 0);
        Check.yes("3 told back, the other way round", x.may(0, 2, 0, false));
        Check.same("3 told back", x.mays(0, 0, 2) + x.mays(0, 2, 0), 0);
        Check.yes("3 told back again", x.may(0, 2, 0, false));
        Check.yes("3 alike ones may", x.may(0, 1, 1, true));
        Check.no("3 alike ones may not", x.may(0, 1, 1, false));
        Check.same("3 alike ones still may", x.mays(0, 1, 1), 1);
        Check.yes("3 the greatest answers", x.may(1, 39, 38, true));
        Check.same("3 the greatest answers", x.mays(1, 38, 39), 1);
        Check.no("3 no answer", x.may(0, 0, 3, true));
        Check.no("3 no answer", x.may(0, 3, 0, true));
        Check.no("3 no answer", x.may(0, -1, 0, true));
        Check.no("3 no answer", x.may(1, 40, 0, true));
        Check.no("3 a size", x.may(3, 0, 1, true));
        Check.no("3 a span", x.may(4, 0, 1, true));
        Check.no("3 no question", x.may(5, 0, 0, true));
        Check.no("3 no question", x.may(-1, 0, 0, true));
        Check.no("3 no question", x.may(MAX, MAX, MIN, false));
    }

    private static void mays() {
        FoundOffice x = Make.withTables(3);
        for (int n = 0; n <= 10; n++) {
            x.question(1, n, 1);
        }
        int span = x.question(2, 0, 1);
        Check.same("4 table alike", x.mays(0, 2, 2), 1);
        Check.same("4 table unlike", x.mays(0, 2, 1), 0);
        Check.same("4 table no answer", x.mays(0, 3, 3), -1);
        Check.same("4 table no answer", x.mays(0, 0, -1), -1);
        Check.same("4 size 0 alike", x.mays(1, 500, 500), 1);
        Check.same("4 size 0 unlike", x.mays(1, 500, 501), 0);
        Check.same("4 size 1 edge", x.mays(2, 90, 100), 1);
        Check.same("4 size 1 past the edge", x.mays(2, 89, 100), 0);
        Check.same("4 size 1 other way round", x.mays(2, 100, 90), 1);
        Check.same("4 size 9", x.mays(10, 1, 10), 1);
        Check.same("4 size 9", x.mays(10, 0, 10), 0);
        Check.same("4 size 10 takes all", x.mays(11, 0, 30000), 1);
        Check.same("4 size 5", x.mays(6, 15000, 30000), 1);
        Check.same("4 size 5", x.mays(6, 14999, 30000), 0);
        Check.same("4 size no answer", x.mays(6, 30001, 30001), -1);
        Check.same("4 size no answer", x.mays(6, 5, -1), -1);
        Check.same("4 span touching", x.mays(span, 1020, 2030), 1);
        Check.same("4 span touching", x.mays(span, 2030, 1020), 1);
        Check.same("4 span apart", x.mays(span, 1020, 2130), 0);
        Check.same("4 span apart", x.mays(span, 2130, 1020), 0);
        Check.same("4 span in one another", x.mays(span, 99, 5050), 1);
        Check.same("4 span greatest", x.mays(span, 9999, 9999), 1);
        Check.same("4 span backwards", x.mays(span, 1009, 1020), -1);
        Check.same("4 span too great", x.mays(span, 10000, 1020), -1);
        Check.same("4 span below", x.mays(span, 1020, -1), -1);
        Check.same("4 no question", x.mays(13, 0, 0), -1);
        Check.same("4 no question", x.mays(-1, 0, 0), -1);
    }

    private static void thing() {
        FoundOffice x = new FoundOffice();
        int[][] wrong = {{-1, 0, -1}, {6, 0, -1}, {0, -1, -1}, {0, 1000, -1}, {0, 0, 0}, {0, 0, -2},
            {MIN, 0, -1}, {0, MAX, -1}, {0, 0, MAX}};
        for (int[] w : wrong) {
            Check.same("5 wrong " + w[0] + " " + w[1] + " " + w[2], x.thing(w[0], w[1], true, w[2]), -1);
        }
        Check.same("5 nothing changed", x.count(2), 0);
        Check.same("5 on the shelf", x.thing(KEY, 999, true, -1), 0);
        Check.same("5 a bag", x.thing(BAG, 0, true, -1), 1);
        Check.same("5 inside", x.thing(PAPER, 3, false, 1), 2);
        Check.same("5 inside of no bag", x.thing(PLAIN, 0, false, 0), -1);
        Check.same("5 inside of itself", x.thing(BAG, 0, false, 3), -1);
        Check.same("5 a bag inside", x.thing(BAG, 0, false, 1), 3);
        Check.same("5 where", x.place(2, 0), 1);
        Check.same("5 its bag", x.place(2, 1), 1);
        Check.same("5 where", x.place(0, 0), 0);
        Check.same("5 its kind", x.place(2, 3), PAPER);
        Check.same("5 its finder", x.place(0, 4), 999);
        Check.same("5 its age", x.place(0, 2), 0);
        Check.same("5 its row is missing", x.length(false, 0), -1);
        x.days(BAG, 1);
        x.day(1);
        Check.same("5 the bag went out", x.place(1, 0), 2);
        Check.same("5 inside of a bag that is out", x.thing(PLAIN, 0, false, 1), -1);
        for (int t = 4; t < 60; t++) {
            Check.same("5 thing " + t, x.thing(PLAIN, 0, false, -1), t);
        }
        Check.same("5 a sixty-first", x.thing(PLAIN, 0, false, -1), -1);
        Check.same("5 count", x.count(2), 60);
    }

    private static void report() {
        FoundOffice x = new FoundOffice();
        int[] wrong = {0, -1, 1000, MIN, MAX};
        for (int w : wrong) {
            Check.same("6 wrong " + w, x.report(w), -1);
        }
        Check.same("6 first", x.report(1), 0);
        Check.same("6 the same person again", x.report(1), 1);
        Check.same("6 greatest", x.report(999), 2);
        Check.same("6 open", x.count(4), 3);
        Check.same("6 its row is missing", x.length(true, 0), -1);
        for (int r = 3; r < 60; r++) {
            Check.same("6 report " + r, x.report(5), r);
        }
        Check.same("6 a sixty-first", x.report(5), -1);
        Check.same("6 count", x.count(3), 60);
    }

    private static void mark() {
        FoundOffice x = Make.withTables(3, 3, 3);
        x.question(2, 0, 1);
        x.thing(PLAIN, 0, false, -1);
        x.report(1);
        Check.yes("7 a thing", x.mark(false, 0, 2, 1));
        Check.same("7 length", x.length(false, 0), 3);
        Check.same("7 nothing at new places", x.known(false, 0, 0), -1);
        Check.same("7 nothing at new places", x.known(false, 0, 1), -1);
        Check.same("7 known", x.known(false, 0, 2), 1);
        Check.same("7 the report has its own row", x.length(true, 0), -1);
        Check.yes("7 a lesser place", x.mark(false, 0, 0, 2));
        Check.same("7 length stays", x.length(false, 0), 3);
        Check.same("7 the other place stays", x.known(false, 0, 2), 1);
        Check.yes("7 nothing", x.mark(false, 0, 2, -1));
        Check.same("7 nothing", x.known(false, 0, 2), -1);
        Check.same("7 length stays", x.length(false, 0), 3);
        Check.yes("7 nothing makes a row, too", x.mark(true, 0, 1, -1));
        Check.same("7 length", x.length(true, 0), 2);
        Check.yes("7 an answer of 0", x.mark(true, 0, 0, 0));
        Check.same("7 an answer of 0", x.known(true, 0, 0), 0);
        Check.no("7 no such thing", x.mark(false, 1, 0, 0));
        Check.no("7 no such thing", x.mark(false, -1, 0, 0));
        Check.no("7 no such report", x.mark(true, 1, 0, 0));
        Check.no("7 no such report", x.mark(true, MIN, 0, -1));
        Check.no("7 no such question", x.mark(true, 0, 4, 0));
        Check.no("7 no such question", x.mark(true, 0, -1, -1));
        Check.no("7 no answer", x.mark(true, 0, 0, 3));
        Check.no("7 no answer", x.mark(true, 0, 0, -2));
        Check.no("7 no answer", x.mark(true, 0, 3, 201));
        Check.same("7 refused changes nothing", x.length(true, 0), 2);
        Check.same("7 refused changes nothing", x.known(true, 0, 0), 0);
        x.days(PLAIN, 1);
        x.day(1);
        Check.yes("7 a thing that is out", x.mark(false, 0, 1, 1));
        x.close(0);
        Check.yes("7 a report that is closed", x.mark(true, 0, 3, 102));
        Check.same("7 known", x.known(false, 0, 1) + x.known(true, 0, 3), 103);
    }

    private static void tear() {
        FoundOffice x = Make.withTables(3, 3, 3);
        x.thing(PLAIN, 0, false, -1);
        x.report(1);
        Check.no("8 missing", x.tear(false, 0, 0));
        Check.no("8 missing", x.tear(false, 0, -1));
        Make.row(x, false, 0, 1, 2, 1);
        Check.no("8 fewer places", x.tear(false, 0, 4));
        Check.no("8 below NONE", x.tear(false, 0, -2));
        Check.no("8 far off", x.tear(false, 0, MIN));
        Check.no("8 far off", x.tear(false, 0, MAX));
        Check.no("8 no such thing", x.tear(false, 1, 0));
        Check.no("8 no such report", x.tear(true, 1, -1));
        Check.no("8 no such report", x.tear(true, -1, -1));
        Check.yes("8 as long as it is", x.tear(false, 0, 3));
        Check.same("8 length", x.length(false, 0), 3);
        Check.yes("8 shorter", x.tear(false, 0, 1));
        Check.same("8 length", x.length(false, 0), 1);
        Check.same("8 known", x.known(false, 0, 0), 1);
        Check.same("8 torn", x.known(false, 0, 1), -1);
        x.mark(false, 0, 2, 0);
        Check.same("8 what was torn does not come back", x.known(false, 0, 1), -1);
        Check.yes("8 no places", x.tear(false, 0, 0));
        Check.same("8 length 0", x.length(false, 0), 0);
        Check.same("8 known", x.known(false, 0, 0), -1);
        Check.no("8 fewer places", x.tear(false, 0, 1));
        Check.yes("8 no places again", x.tear(false, 0, 0));
        Check.yes("8 missing now", x.tear(false, 0, -1));
        Check.same("8 missing", x.length(false, 0), -1);
        Check.no("8 missing", x.tear(false, 0, -1));
        x.mark(false, 0, 1, 1);
        Check.same("8 what was torn does not come back", x.known(false, 0, 0), -1);
    }

    private static void knownAndLength() {
        FoundOffice x = new FoundOffice();
        for (int q = 0; q < 16; q++) {
            x.question(1, 1, 1);
        }
        x.thing(PLAIN, 0, false, -1);
        x.thing(PLAIN, 0, false, -1);
        x.report(1);
        x.mark(false, 1, 15, 30000);
        Check.same("9 last question", x.known(false, 1, 15), 30000);
        Check.same("10 longest", x.length(false, 1), 16);
        Check.same("9 a longer way", x.known(false, 1, 16), -1);
        Check.same("9 below", x.known(false, 1, -1), -1);
        Check.same("9 far off", x.known(false, 1, MAX), -1);
        Check.same("9 another thing", x.known(false, 0, 15), -1);
        Check.same("9 no such thing", x.known(false, 2, 15), -1);
        Check.same("9 no such report", x.known(true, 1, 15), -1);
        Check.same("9 no such report", x.known(true, -1, 15), -1);
        Check.same("10 missing", x.length(false, 0), -1);
        Check.same("10 no such thing", x.length(false, 2), -1);
        Check.same("10 no such report", x.length(true, 1), -1);
        Check.same("10 no such report", x.length(true, MIN), -1);
    }

    private static void fitsAndTells() {
        FoundOffice x = Make.withTables(4, 4, 4);
        Make.things(x, 2, PLAIN);
        Make.reports(x, 2);
        Check.same("11 missing rows", x.fits(0, 0), 1);
        Check.same("12 missing rows", x.tells(0, 0), -1);
        Make.row(x, false, 0, 0, 1, 2);
        Make.row(x, true, 0, -1, 1);
        Check.same("11 what both know", x.fits(0, 0), 1);
        Make.row(x, true, 0, -1, 3, 3);
        Check.same("11 apart", x.fits(0, 0), 0);
        Check.same("12 the first", x.tells(0, 0), 1);
        x.may(1, 1, 3, true);
        Check.same("12 the next", x.tells(0, 0), 2);
        x.may(2, 2, 3, true);
        Check.same("11 may be", x.fits(0, 0), 1);
        Check.same("12 none", x.tells(0, 0), -1);
        x.may(2, 2, 3, false);
        x.tear(true, 0, 2);
        Check.same("11 torn", x.fits(0, 0), 1);
        Check.same("11 no such report", x.fits(2, 0), -1);
        Check.same("11 no such thing", x.fits(0, 2), -1);
        Check.same("11 no such ones", x.fits(-1, -1), -1);
        Check.same("12 no such ones", x.tells(0, 2), -1);
        Check.same("12 no such ones", x.tells(MIN, MAX), -1);
        x.days(PLAIN, 1);
        x.day(1);
        x.close(0);
        Check.same("11 out and closed", x.fits(0, 0), 1);
    }

    private static void strength() {
        FoundOffice x = new FoundOffice();
        x.question(0, 4, 7);
        x.question(0, 4, 100);
        x.question(1, 10, 3);
        Make.things(x, 6, PLAIN);
        Make.reports(x, 2);
        for (int t = 0; t < 5; t++) {
            Make.row(x, false, t, 1, t % 2, 200);
        }
        Make.row(x, true, 0, 1);
        Check.same("13 84 divided by 5", x.strength(0, 0), 16);
        Make.row(x, true, 0, 1, 0, 100);
        Check.same("13 each question by itself", x.strength(0, 0), 16 + 400 + 7);
        Check.same("13 does not fit", x.strength(0, 1), -1);
        x.may(1, 0, 1, true);
        Check.same("13 by the thing's answer", x.strength(0, 1), 16 + 600 + 7);
        Check.same("13 nothing in common", x.strength(0, 5), 0);
        Check.same("13 missing", x.strength(1, 0), 0);
        Check.same("13 no such report", x.strength(2, 0), -1);
        Check.same("13 no such thing", x.strength(0, 6), -1);
        x.claim(1, 0);
        x.prove(0, 0, 1);
        Check.same("13 give", x.give(0), 0);
        Check.same("13 those that are out do not count", x.strength(0, 2), 21 + 600 + 9);
        Check.same("13 it counts, even if it is out", x.strength(0, 0), 16 + 400 + 7);
    }

    private static void fittingAndFit() {
        FoundOffice x = Make.withTables(3);
        Make.things(x, 5, PLAIN);
        Make.reports(x, 1);
        Make.row(x, false, 1, 2);
        Make.row(x, true, 0, 0);
        Check.same("14 fitting", x.fitting(0), 4);
        int[] due = {0, 2, 3, 4, -1};
        for (int k = 0; k < due.length; k++) {
            Check.same("15 fit " + k, x.fit(0, k), due[k]);
        }
        Check.same("15 below", x.fit(0, -1), -1);
        Check.same("15 far off", x.fit(0, MAX), -1);
        Check.same("15 far off", x.fit(0, MIN), -1);
        Check.same("14 no such report", x.fitting(1), -1);
        Check.same("14 no such report", x.fitting(-1), -1);
        Check.same("15 no such report", x.fit(1, 0), -1);
        Check.same("15 no such report", x.fit(-1, 0), -1);
        x.into(0, -1);
        x.thing(BAG, 0, false, -1);
        x.into(0, 5);
        Check.same("14 inside of a bag counts", x.fitting(0), 5);
        x.days(BAG, 1);
        x.day(1);
        Check.same("14 those that are out do not", x.fitting(0), 3);
        Check.same("15 those that are out do not", x.fit(0, 0), 2);
        x.close(0);
        Check.same("14 closed", x.fitting(0), 3);
        Check.same("15 closed", x.fit(0, 2), 4);
    }

    private static void best() {
        FoundOffice x = new FoundOffice();
        x.question(0, 4, 1);
        x.question(0, 4, 9);
        Make.things(x, 3, PLAIN);
        Make.reports(x, 3);
        Make.row(x, false, 0, 0, 0);
        Make.row(x, false, 1, 0, 1);
        Make.row(x, false, 2, 0, 2);
        Make.row(x, true, 0, 0, 1);
        Make.row(x, true, 1, 0);
        Make.row(x, true, 2, 0, 2);
        Check.same("16 by strength", x.best(0), 1);
        Check.same("16 by strength", x.best(1), 0);
        Check.same("16 by strength", x.best(2), 2);
        Check.same("17 the sum", x.sum(1), 4 + 108 + 4 + 4 + 108);
        Make.row(x, true, 2, 0, 1);
        Check.same("16 the lesser report first", x.best(0), 1);
        Check.same("16 none is left", x.best(2), -1);
        Check.same("16 none is left", x.best(1), 0);
        Check.same("17 the sum", x.sum(2), 112 + 4);
        x.close(0);
        Check.same("16 closed", x.best(0), -1);
        Check.same("17 closed", x.sum(0), -1);
        Check.same("16 closed ones take nothing", x.best(2), 1);
        Check.same("16 no such report", x.best(3), -1);
        Check.same("16 no such report", x.best(MIN), -1);
        Check.same("17 no such report", x.sum(3), -1);
        Check.same("17 no such report", x.sum(-1), -1);
        Make.row(x, true, 1, 3);
        Check.same("16 fits nothing", x.best(1), -1);
        Check.same("17 fits nothing", x.sum(1), 0);
    }

    private static void bestOfSeveralWays() {
        FoundOffice x = Make.withTables(2, 2, 2);
        Make.things(x, 4, PLAIN);
        Make.reports(x, 3);
        Check.same("16 strength 0 is better than none", x.best(0), 0);
        Check.same("16 strength 0 is better than none", x.best(2), 2);
        Check.same("17 strength 0", x.sum(2), 0);
        Make.row(x, true, 0, 0);
        Make.row(x, false, 0, 1);
        Make.row(x, false, 1, 1);
        Check.same("16 the lesser number that it fits", x.best(0), 2);
        Check.same("16 the next report takes the lesser", x.best(1), 0);
        Check.same("16 and the next", x.best(2), 1);
        FoundOffice y = Make.withTables(2, 2, 2);
        y.thing(PLAIN, 0, false, -1);
        Make.reports(y, 2);
        Make.row(y, false, 0, 1);
        Make.row(y, true, 0, 1);
        Make.row(y, true, 1, 1);
        Check.same("16 of two alike the first report", y.best(0), 0);
        Check.same("16 none for the second", y.best(1), -1);
        Check.same("17 one strength", y.sum(1), 12);
        FoundOffice z = new FoundOffice();
        z.question(0, 3, 1);
        z.question(0, 3, 10);
        Make.things(z, 2, PLAIN);
        Make.reports(z, 2);
        Make.row(z, false, 0, 0, 0);
        Make.row(z, false, 1, 0, 1);
        Make.row(z, true, 0, 0);
        Make.row(z, true, 1, 0, 0);
        Check.same("16 the sum comes ahead of the lesser number", z.best(0), 1);
        Check.same("16 the sum comes ahead of the lesser number", z.best(1), 0);
    }

    private static void tooLarge() {
        FoundOffice x = Make.withTables(3);
        Make.things(x, 2, PLAIN);
        Make.reports(x, 10);
        for (int r = 0; r < 10; r++) {
            Check.same("16 ten reports, two things", x.best(r), r < 2 ? r : -1);
        }
        x.report(7);
        Check.same("16 eleven reports", x.best(0), -2);
        Check.same("17 eleven reports", x.sum(0), -2);
        Check.same("18 eleven reports", x.also(0), -2);
        Check.same("19 eleven reports", x.group(0, 0), 11);
        x.close(5);
        Check.same("16 ten open ones", x.best(10), -1);
        Check.same("16 closed comes ahead", x.best(5), -1);
        Make.things(x, 18, PLAIN);
        for (int r = 0; r < 10; r++) {
            Check.same("16 ten reports, twenty things", x.best(r), r == 5 ? -1 : r < 5 ? r : r - 1);
        }
        Make.things(x, 1, PLAIN);
        Check.same("16 twenty-one things", x.best(0), -2);
        Check.same("17 twenty-one things", x.sum(0), -2);
        Check.same("18 twenty-one things", x.also(0), -2);
        Check.same("19 twenty-one things", x.group(0, 1), 21);
        Make.row(x, false, 20, 1);
        for (int r = 0; r < 11; r++) {
            Make.row(x, true, r, 2);
        }
        Check.same("16 one less", x.best(0), 0);
        Check.same("18 all alike", x.also(0), 20);
    }

    private static void also() {
        FoundOffice x = new FoundOffice();
        x.question(0, 3, 1);
        x.question(0, 3, 10);
        Make.things(x, 5, PLAIN);
        Make.reports(x, 2);
        Make.row(x, false, 0, 0, 0);
        Make.row(x, false, 1, 0, 1);
        Make.row(x, false, 2, 0);
        Make.row(x, false, 3, 1);
        Make.row(x, true, 0, 0);
        Make.row(x, true, 1, 0, 0);
        Check.same("16 the second best for the first", x.best(0), 1);
        Check.same("18 as strong", x.also(0), 3);
        Check.same("18 itself alone", x.also(1), 1);
        Check.same("18 no such report", x.also(2), -1);
        Check.same("18 no such report", x.also(-1), -1);
        Make.row(x, true, 1, 2, 2);
        for (int t = 0; t < 5; t++) {
            Make.row(x, false, t, 0);
        }
        Check.same("18 none given", x.also(1), -1);
        Check.same("18 all", x.also(0), 5);
        x.into(4, -1);
        x.thing(BAG, 0, false, -1);
        Make.row(x, false, 5, 1);
        x.into(4, 5);
        x.days(BAG, 1);
        x.day(1);
        Check.same("18 those that are out do not count", x.also(0), 4);
        x.close(0);
        Check.same("18 closed", x.also(0), -1);
    }

    private static void group() {
        FoundOffice x = Make.withTables(5, 5);
        Make.things(x, 4, PLAIN);
        Make.reports(x, 5);
        Make.row(x, false, 0, 0, 0);
        Make.row(x, false, 1, 0, 1);
        Make.row(x, false, 2, 1, 1);
        Make.row(x, false, 3, 2, 2);
        Make.row(x, true, 0, 1);
        Make.row(x, true, 1, 0, 0);
        Make.row(x, true, 2, 2);
        Make.row(x, true, 3, -1, 1);
        Make.row(x, true, 4, 4);
        Check.same("19 hangs by one thing", x.group(0, 0), 2);
        Check.same("19 things of all", x.group(0, 1), 2);
        Check.same("19 does not hang", x.group(1, 0), 1);
        Check.same("19 does not hang", x.group(2, 1), 1);
        Check.same("19 fits nothing", x.group(4, 0), 1);
        Check.same("19 fits nothing", x.group(4, 1), 0);
        Make.row(x, true, 1, 0);
        Check.same("19 a row of three", x.group(0, 0), 3);
        Check.same("19 a row of three", x.group(1, 0), 3);
        Check.same("19 a row of three", x.group(1, 1), 3);
        x.close(3);
        Check.same("19 the middle one is closed", x.group(0, 0), 1);
        Check.same("19 the middle one is closed", x.group(1, 1), 2);
        Check.same("19 closed", x.group(3, 0), -1);
        Check.same("19 another what", x.group(0, 2), -1);
        Check.same("19 another what", x.group(0, -1), -1);
        Check.same("19 no such report", x.group(5, 0), -1);
        Check.same("19 no such report", x.group(-1, 1), -1);
    }

    private static void like() {
        FoundOffice x = Make.withTables(3, 3);
        Make.things(x, 4, PLAIN);
        Check.same("20 missing ones", x.like(0, 1), 1);
        Make.row(x, false, 0, -1, -1);
        Check.same("20 missing and empty", x.like(0, 1), 1);
        Make.row(x, false, 0, 1);
        Check.same("20 one does not know", x.like(0, 1), 0);
        Make.row(x, false, 1, 1, -1);
        Check.same("20 same answers", x.like(1, 0), 1);
        Make.row(x, false, 1, 1, 0);
        Check.same("20 not the second", x.like(1, 0), 0);
        Make.row(x, false, 0, 1, 2);
        x.may(1, 0, 2, true);
        Check.same("20 may be is not alike", x.like(1, 0), 0);
        Check.same("20 itself", x.like(1, 1), 1);
        Check.same("20 no such thing", x.like(0, 4), -1);
        Check.same("20 no such thing", x.like(-1, 0), -1);
        x.days(PLAIN, 1);
        x.day(1);
        Check.same("20 out", x.like(2, 3), 1);
    }

    private static void partsAndAsk() {
        FoundOffice x = Make.withTables(3, 5, 5);
        Make.things(x, 5, PLAIN);
        Make.reports(x, 2);
        Check.same("21 all unknown", x.parts(0, 0), 1);
        Check.same("22 none parts", x.ask(0), -1);
        Make.row(x, false, 0, 0, 0, 0);
        Make.row(x, false, 1, 0, 1, 1);
        Make.row(x, false, 2, 1, 1, 2);
        Make.row(x, false, 3, 1, 2, 2);
        Check.same("21 with those that do not know", x.parts(0, 0), 3);
        Check.same("21 classes", x.parts(0, 1), 4);
        Check.same("22 the first of the most", x.ask(0), 1);
        Make.row(x, true, 0, 1);
        Check.same("21 of what it fits", x.parts(0, 0), 2);
        Check.same("21 of what it fits", x.parts(0, 1), 3);
        Make.row(x, false, 4, 1, 2, 3);
        Check.same("21 all know", x.parts(0, 0), 1);
        Check.same("22 another one", x.ask(0), 1);
        Make.row(x, false, 3, 1, 2, 4);
        Check.same("22 the most classes", x.ask(0), 2);
        Make.row(x, true, 0, 2);
        Check.same("21 it fits nothing", x.parts(0, 0), 0);
        Check.same("22 it fits nothing", x.ask(0), -1);
        Check.same("21 no such question", x.parts(0, 3), -1);
        Check.same("21 no such question", x.parts(0, -1), -1);
        Check.same("21 no such report", x.parts(2, 0), -1);
        Check.same("22 no such report", x.ask(2), -1);
        Check.same("22 no such report", x.ask(-1), -1);
        x.close(1);
        Check.same("21 closed", x.parts(1, 0), 2);
        x.days(PLAIN, 1);
        x.day(1);
        Check.same("21 all are out", x.parts(1, 0), 0);
        Check.same("22 all are out", x.ask(1), -1);
    }

    private static void fewest() {
        FoundOffice x = Make.withTables(2, 2, 2, 2, 12);
        Make.reports(x, 1);
        Check.same("23 no things", x.fewest(0), 0);
        Make.things(x, 12, PLAIN);
        Check.same("23 all alike", x.fewest(0), 0);
        for (int t = 0; t < 12; t++) {
            Make.row(x, false, t, t & 1, t >> 1 & 1, t >> 2 & 1, t >> 3);
        }
        Check.same("23 twelve by halves", x.fewest(0), 4);
        for (int t = 0; t < 12; t++) {
            x.mark(false, t, 4, t);
        }
        Check.same("23 twelve at once", x.fewest(0), 1);
        for (int t = 0; t < 12; t++) {
            x.mark(false, t, 4, t / 4);
        }
        Check.same("23 three fours", x.fewest(0), 3);
        x.mark(false, 0, 4, 1);
        Check.same("23 the greatest of the classes", x.fewest(0), 4);
        Make.things(x, 1, PLAIN);
        Check.same("23 thirteen", x.fewest(0), -2);
        Check.same("23 no such report", x.fewest(1), -1);
        Check.same("23 no such report", x.fewest(-1), -1);
        x.close(0);
        Check.same("23 thirteen, closed", x.fewest(0), -2);
        Make.row(x, true, 0, 0);
        Make.row(x, false, 12, 1);
        Check.same("23 of what it fits", x.fewest(0), 3);
        FoundOffice y = new FoundOffice();
        for (int q = 0; q < 16; q++) {
            y.question(0, 2, 1);
        }
        Make.reports(y, 1);
        Make.things(y, 12, PLAIN);
        for (int t = 0; t < 11; t++) {
            y.mark(false, t, t, 1);
        }
        Check.same("23 one thing a question", y.fewest(0), 11);
        y.mark(false, 11, 0, 1);
        Check.same("23 two that are alike now", y.fewest(0), 10);
    }

    private static void claim() {
        FoundOffice x = Make.withTables(3);
        Make.things(x, 3, PLAIN);
        Make.reports(x, 3);
        Make.row(x, false, 1, 1);
        Make.row(x, true, 0, 2);
        Check.same("24 claim", x.claim(0, 0), 0);
        Check.same("24 another report", x.claim(1, 0), 1);
        Check.same("24 another thing", x.claim(1, 1), 2);
        Check.same("24 no such report", x.claim(3, 9), -1);
        Check.same("24 no such report", x.claim(-1, 0), -1);
        Check.same("24 no such thing", x.claim(0, 3), -2);
        Check.same("24 no such thing", x.claim(0, -1), -2);
        Check.same("24 doesn't fit", x.claim(0, 1), -4);
        Check.same("24 stands already", x.claim(0, 0), -5);
        x.mark(false, 0, 0, 1);
        Check.same("24 doesn't fit comes ahead", x.claim(0, 0), -4);
        x.prove(1, 0, 1);
        Check.same("24 a proved one stands, too", x.claim(1, 0), -5);
        x.withdraw(1);
        Check.same("24 after it was withdrawn", x.claim(1, 0), 3);
        x.close(2);
        Check.same("24 closed", x.claim(2, 0), -1);
        Check.same("24 closed comes ahead", x.claim(2, 9), -1);
        x.days(PLAIN, 1);
        x.day(1);
        Check.same("24 out", x.claim(0, 2), -3);
        Check.same("24 refused ones make none", x.count(5), 4);
        Check.same("24 they stand", x.count(6), 3);
    }

    private static void claimsAreFull() {
        FoundOffice x = Make.withTables(2);
        Make.things(x, 2, PLAIN);
        Make.reports(x, 60);
        for (int c = 0; c < 100; c++) {
            Check.same("24 claim " + c, x.claim(c % 50, c / 50), c);
        }
        Check.same("24 a hundred and first", x.claim(50, 0), -6);
        Check.same("24 ahead of it", x.claim(0, 0), -5);
        Check.same("24 count", x.count(5), 100);
        x.withdraw(0);
        Check.same("24 numbers are not used again", x.claim(0, 0), -6);
        x.mark(false, 1, 0, 1);
        Check.same("25 the last one", x.prove(99, 0, 1), 0);
        Check.same("26 the last one", x.give(99), 0);
        Check.same("26 the others are lost", x.count(6), 48);
    }

    private static void prove() {
        FoundOffice x = Make.withTables(3, 3, 3);
        Make.things(x, 2, PLAIN);
        Make.reports(x, 2);
        Make.row(x, false, 0, 0, 1, -1);
        Make.row(x, true, 0, 0);
        x.claim(0, 0);
        x.claim(1, 0);
        Check.same("25 no such claim", x.prove(2, 9, 0), 1);
        Check.same("25 no such claim", x.prove(-1, 0, 0), 1);
        Check.same("25 no such question", x.prove(0, 3, 0), 2);
        Check.same("25 no such question", x.prove(0, -1, 0), 2);
        Check.same("25 it was told", x.prove(0, 0, 0), 3);
        Check.same("25 it was told, and wrong", x.prove(0, 0, 2), 3);
        Check.same("25 the thing doesn't know", x.prove(0, 2, 0), 4);
        Check.same("25 the thing doesn't know", x.prove(0, 2, -1), 4);
        Check.same("25 not proved yet", x.claimed(0, 0), 0);
        Check.same("25 right", x.prove(0, 1, 1), 0);
        Check.same("25 proved", x.claimed(0, 0), 1);
        Check.same("25 again", x.prove(0, 1, 1), 0);
        x.mark(true, 0, 1, 1);
        Check.same("25 it was told now", x.prove(0, 1, 1), 3);
        Check.same("25 still proved", x.claimed(0, 0), 1);
        x.mark(true, 0, 1, -1);
        x.may(1, 1, 2, true);
        Check.same("25 may be is not right", x.prove(0, 1, 2), 5);
        Check.same("25 refused, though it was proved", x.claimed(0, 0), 3);
        Check.same("25 it does not stand", x.prove(0, 1, 1), 1);
        Check.same("25 no answer at all", x.prove(1, 1, MAX), 5);
        Check.same("25 none stands", x.place(0, 9), 0);
    }

    private static void give() {
        FoundOffice x = Make.withTables(3, 3);
        Make.things(x, 3, PLAIN);
        Make.reports(x, 3);
        for (int t = 0; t < 3; t++) {
            Make.row(x, false, t, 0, 1);
        }
        x.claim(0, 0);
        x.claim(1, 0);
        x.claim(1, 1);
        x.claim(2, 1);
        x.claim(1, 2);
        Check.same("26 no such claim", x.give(5), 1);
        Check.same("26 no such claim", x.give(-1), 1);
        Check.same("26 not proved", x.give(0), 2);
        x.day(3);
        x.prove(1, 1, 1);
        x.prove(0, 1, 1);
        Check.same("26 a lesser one is proved", x.give(1), 3);
        x.mark(true, 1, 0, 1);
        Check.same("26 ahead of that it doesn't fit", x.give(1), 3);
        x.withdraw(0);
        Check.same("26 doesn't fit any more", x.give(1), 4);
        Check.same("26 nothing changed", x.claimed(1, 0), 1);
        x.mark(true, 1, 0, 0);
        Check.same("26 given", x.give(1), 0);
        Check.same("26 the claim", x.claimed(1, 0), 4);
        Check.same("26 its report's others are withdrawn", x.claimed(2, 0), 2);
        Check.same("26 its report's others are withdrawn", x.claimed(4, 0), 2);
        Check.same("26 another one stands", x.claimed(3, 0), 0);
        Check.same("26 withdrawn stays", x.claimed(0, 0), 2);
        Check.same("26 out", x.place(0, 0), 2);
        Check.same("26 to the person", x.place(0, 5), 102);
        Check.same("26 the day", x.place(0, 6), 3);
        Check.same("26 why", x.place(0, 7), 1);
        Check.same("26 closed", x.best(1), -1);
        Check.same("26 closed", x.count(4), 2);
        Check.same("26 not twice", x.give(1), 1);
        x.prove(3, 1, 1);
        x.claim(0, 1);
        Check.same("26 one of a greater number does not matter", x.prove(5, 1, 1), 0);
        Check.same("26 given", x.give(3), 0);
        Check.same("26 the other is lost", x.claimed(5, 0), 5);
        Check.same("26 lost", x.give(5), 1);
    }

    private static void giveHeldBack() {
        FoundOffice x = Make.withTables(3, 3);
        x.thing(WORTH, 0, false, -1);
        Make.reports(x, 2);
        Make.row(x, false, 0, 0, 1);
        x.claim(0, 0);
        x.claim(1, 0);
        Check.same("26 not proved", x.give(0), 2);
        x.prove(0, 1, 1);
        x.prove(1, 1, 1);
        Check.same("26 not so far", x.give(1), 3);
        x.mark(true, 0, 0, 2);
        Check.same("26 not so far", x.give(0), 4);
        x.mark(true, 0, 0, 0);
        Check.same("26 held back", x.give(0), 5);
        Check.same("26 still proved", x.claimed(0, 0), 1);
        Check.same("26 still here", x.place(0, 0), 0);
        x.withdraw(0);
        Check.same("26 each claim by itself", x.give(1), 5);
        x.mark(true, 1, 0, 2);
        Check.same("26 another reason", x.give(1), 4);
        x.mark(true, 1, 0, -1);
        Check.same("26 it does not hold again", x.give(1), 0);
        Check.same("26 out", x.place(0, 5), 102);
    }

    private static void giveABag() {
        FoundOffice x = Make.withTables(3);
        x.thing(BAG, 5, true, -1);
        x.thing(PLAIN, 5, true, -1);
        x.thing(WORTH, 5, true, 0);
        x.thing(BAG, 5, true, 0);
        x.thing(PAPER, 5, true, 3);
        x.thing(BAG, 5, true, 0);
        x.thing(KEY, 5, true, 5);
        x.thing(KEY, 5, true, 0);
        x.into(1, 3);
        x.mark(false, 0, 0, 1);
        Make.reports(x, 3);
        x.claim(0, 0);
        x.claim(1, 5);
        x.claim(1, 1);
        x.claim(2, 0);
        x.prove(0, 0, 1);
        Check.same("26 a bag", x.give(0), 0);
        int[] due = {0, 2, 3, 4, 7, -1};
        for (int k = 0; k < due.length; k++) {
            Check.same("35 gone " + k, x.gone(k), due[k]);
        }
        for (int k = 0; k < 5; k++) {
            Check.same("26 to the same one", x.place(due[k], 5), 101);
            Check.same("26 for the same why", x.place(due[k], 7), 1);
            Check.same("26 inside no bag", x.place(due[k], 1), -1);
            Check.same("26 nothing inside", x.place(due[k], 8), 0);
        }
        Check.same("26 another's claim: to the shelf", x.place(5, 0), 0);
        Check.same("26 with all that is inside", x.place(6, 1), 5);
        Check.same("26 deep inside: to the shelf", x.place(1, 0), 0);
        Check.same("26 its claim stands", x.claimed(1, 0), 0);
        Check.same("26 its claim stands", x.claimed(2, 0), 0);
        Check.same("26 the other one on the bag is lost", x.claimed(3, 0), 5);
        Check.same("34 out by a claim", x.count(10), 5);
        Check.same("34 inside", x.count(8), 1);
    }

    private static void giveOwnClaimsInside() {
        FoundOffice x = Make.withTables(3);
        x.thing(BAG, 0, false, -1);
        x.thing(PLAIN, 0, false, 0);
        x.thing(PLAIN, 0, false, 0);
        x.mark(false, 0, 0, 1);
        Make.reports(x, 2);
        x.claim(0, 0);
        x.claim(0, 1);
        x.claim(0, 2);
        x.claim(1, 2);
        x.prove(0, 0, 1);
        Check.same("26 a bag with its own", x.give(0), 0);
        Check.same("26 withdrawn ahead of the going", x.claimed(1, 0), 2);
        Check.same("26 its own goes along", x.place(1, 5), 101);
        Check.same("26 withdrawn, too", x.claimed(2, 0), 2);
        Check.same("26 another's stays", x.place(2, 0), 0);
        Check.same("26 another's stands", x.claimed(3, 0), 0);
        FoundOffice y = Make.withTables(3);
        y.thing(BAG, 0, false, -1);
        y.thing(PLAIN, 0, false, 0);
        y.mark(false, 1, 0, 1);
        Make.reports(y, 1);
        y.claim(0, 1);
        y.prove(0, 0, 1);
        Check.same("26 out of a bag", y.give(0), 0);
        Check.same("26 it is inside no more", y.place(0, 8), 0);
        Check.same("26 the bag stays", y.place(0, 0), 0);
    }

    private static void withdraw() {
        FoundOffice x = Make.withTables(2);
        Make.things(x, 1, PLAIN);
        Make.reports(x, 1);
        x.claim(0, 0);
        Check.no("27 no such claim", x.withdraw(1));
        Check.no("27 no such claim", x.withdraw(-1));
        Check.yes("27 stands", x.withdraw(0));
        Check.same("27 withdrawn", x.claimed(0, 0), 2);
        Check.no("27 again", x.withdraw(0));
        x.mark(false, 0, 0, 1);
        x.claim(0, 0);
        x.prove(1, 0, 1);
        Check.yes("27 proved", x.withdraw(1));
        x.claim(0, 0);
        x.prove(2, 0, 0);
        Check.no("27 refused", x.withdraw(2));
        Check.same("27 still refused", x.claimed(2, 0), 3);
        x.claim(0, 0);
        x.prove(3, 0, 1);
        x.give(3);
        Check.no("27 given", x.withdraw(3));
        Check.same("27 the report stayed open till then", x.count(4), 0);
    }

    private static void close() {
        FoundOffice x = Make.withTables(2);
        Make.things(x, 2, PLAIN);
        Make.reports(x, 2);
        x.mark(false, 0, 0, 1);
        x.claim(0, 0);
        x.claim(0, 1);
        x.claim(1, 0);
        x.prove(0, 0, 1);
        Check.no("28 no such report", x.close(2));
        Check.no("28 no such report", x.close(-1));
        Check.yes("28 open", x.close(0));
        Check.same("28 withdrawn", x.claimed(0, 0), 2);
        Check.same("28 withdrawn", x.claimed(1, 0), 2);
        Check.same("28 another's stands", x.claimed(2, 0), 0);
        Check.no("28 again", x.close(0));
        Check.same("28 one is open", x.count(4), 1);
        x.prove(2, 0, 1);
        x.give(2);
        Check.no("28 closed by a gift", x.close(1));
    }

    private static void claimed() {
        FoundOffice x = Make.withTables(2);
        Make.things(x, 3, PLAIN);
        Make.reports(x, 2);
        x.claim(1, 2);
        Check.same("29 how", x.claimed(0, 0), 0);
        Check.same("29 its report", x.claimed(0, 1), 1);
        Check.same("29 its thing", x.claimed(0, 2), 2);
        Check.claimedThrows("29 another what", x, 0, 3);
        Check.claimedThrows("29 another what", x, 0, -1);
        Check.claimedThrows("29 no such claim", x, 1, 0);
        Check.claimedThrows("29 no such claim", x, -1, 0);
        Check.claimedThrows("29 no such claim", x, MAX, MIN);
    }

    private static void into() {
        FoundOffice x = new FoundOffice();
        Make.things(x, 4, BAG);
        Make.things(x, 2, PLAIN);
        Check.yes("30 into a bag", x.into(4, 0));
        Check.same("30 inside", x.place(4, 1), 0);
        Check.yes("30 into the same", x.into(4, 0));
        Check.yes("30 into another", x.into(4, 1));
        Check.same("30 inside another", x.place(4, 1), 1);
        Check.same("30 not in the first", x.place(0, 8), 0);
        Check.yes("30 to the shelf", x.into(4, -1));
        Check.yes("30 to the shelf again", x.into(4, -1));
        Check.same("30 on the shelf", x.place(4, 0), 0);
        Check.no("30 into itself", x.into(0, 0));
        Check.yes("30 bag in bag", x.into(1, 0));
        Check.yes("30 bag in bag", x.into(2, 1));
        Check.no("30 into what is inside", x.into(0, 1));
        Check.no("30 into what is deep inside", x.into(0, 2));
        Check.yes("30 up", x.into(2, 0));
        Check.yes("30 beside", x.into(1, 2));
        Check.no("30 no bag", x.into(4, 5));
        Check.no("30 no such bag", x.into(4, 6));
        Check.no("30 below NONE", x.into(4, -2));
        Check.no("30 no such thing", x.into(6, -1));
        Check.no("30 no such thing", x.into(-1, 0));
        Check.same("30 where it was", x.place(4, 0), 0);
        x.days(BAG, 1);
        x.into(3, 2);
        x.day(1);
        Check.same("30 out with three inside", x.count(9), 4);
        Check.no("30 a bag that is out", x.into(4, 0));
        Check.no("30 a thing that is out", x.into(3, -1));
    }

    private static void place() {
        FoundOffice x = Make.withTables(2);
        x.thing(BAG, 0, false, -1);
        x.thing(KEY, 17, true, 0);
        x.thing(BAG, 3, false, 0);
        x.thing(PAPER, 4, false, 2);
        Make.reports(x, 2);
        x.claim(0, 1);
        x.claim(1, 1);
        int[] bag = {0, -1, 0, BAG, 0, -1, -1, -1, 2, 0};
        int[] key = {1, 0, 0, KEY, 17, -1, -1, -1, 0, 2};
        for (int what = 0; what < 10; what++) {
            Check.same("31 bag " + what, x.place(0, what), bag[what]);
            Check.same("31 key " + what, x.place(1, what), key[what]);
        }
        x.withdraw(0);
        Check.same("31 one stands", x.place(1, 9), 1);
        x.into(1, -1);
        x.day(4);
        Check.same("31 age of a claimed one", x.place(1, 2), 0);
        Check.same("31 age on the shelf", x.place(0, 2), 4);
        Check.same("31 age inside", x.place(2, 2), 0);
        x.withdraw(1);
        x.day(10);
        int[] out = {2, -1, 10, KEY, 17, 17, 14, 2, 0, 0};
        for (int what = 0; what < 10; what++) {
            Check.same("31 out " + what, x.place(1, what), out[what]);
        }
        Check.placeThrows("31 another what", x, 0, 10);
        Check.placeThrows("31 another what", x, 0, -1);
        Check.placeThrows("31 no such thing", x, 4, 0);
        Check.placeThrows("31 no such thing", x, -1, 0);
        Check.placeThrows("31 no such thing", x, MIN, MAX);
    }

    private static void days() {
        FoundOffice x = new FoundOffice();
        Check.no("32 no kind", x.days(6, 1));
        Check.no("32 no kind", x.days(-1, 1));
        Check.no("32 none", x.days(0, 0));
        Check.no("32 below", x.days(0, -1));
        Check.no("32 too many", x.days(0, 1001));
        Check.yes("32 most", x.days(WORTH, 1000));
        Check.yes("32 least", x.days(KEY, 1));
        for (int kind = 0; kind < 6; kind++) {
            x.thing(kind, 0, false, -1);
        }
        Check.same("32 a perish and a key", x.day(1), 2);
        Check.same("32 nothing till 9", x.day(8), 0);
        Check.same("32 a paper at 10", x.day(1), 1);
        Check.same("32 nothing till 29", x.day(19), 0);
        Check.same("32 a plain and a bag at 30", x.day(1), 2);
        for (int i = 0; i < 9; i++) {
            Check.same("32 a worth stays", x.day(100), 0);
        }
        Check.same("32 a worth stays", x.day(69), 0);
        Check.same("32 a worth at 1000", x.day(1), 1);
        FoundOffice y = new FoundOffice();
        y.thing(WORTH, 0, false, -1);
        Check.same("32 a worth till 59", y.day(59), 0);
        Check.same("32 a worth at 60", y.day(1), 1);
        y.thing(PLAIN, 0, false, -1);
        y.day(20);
        y.days(PLAIN, 5);
        Check.same("32 older than its days", y.day(1), 1);
        Check.same("32 its age", y.place(1, 2), 21);
    }

    private static void day() {
        FoundOffice x = Make.withTables(2);
        x.thing(PERISH, 0, true, -1);
        x.thing(PERISH, 8, true, -1);
        x.thing(PERISH, 8, false, -1);
        x.thing(KEY, 0, true, -1);
        x.thing(KEY, 9, true, -1);
        x.thing(KEY, 9, false, -1);
        x.thing(KEY, 9, true, -1);
        Make.reports(x, 1);
        x.claim(0, 6);
        Check.same("33 below", x.day(-1), -1);
        Check.same("33 above", x.day(101), -1);
        Check.same("33 far off", x.day(MIN), -1);
        Check.same("33 no day", x.day(0), 0);
        Check.same("33 day 0", x.count(0), 0);
        Check.same("33 three perish", x.day(1), 3);
        Check.same("33 three keys", x.day(100), 3);
        Check.same("33 day 101", x.count(0), 101);
        int[] to = {0, 8, 0, 0, 9, 0, -1};
        int[] on = {1, 1, 1, 10, 10, 10, -1};
        int[] why = {3, 2, 3, 4, 2, 4, -1};
        for (int t = 0; t < 7; t++) {
            Check.same("33 to " + t, x.place(t, 5), to[t]);
            Check.same("33 on " + t, x.place(t, 6), on[t]);
            Check.same("33 why " + t, x.place(t, 7), why[t]);
        }
        Check.same("33 a claimed one does not age", x.place(6, 2), 0);
        x.withdraw(0);
        Check.same("33 it ages now", x.day(9), 0);
        Check.same("33 it goes now", x.day(1), 1);
        Check.same("34 to finders", x.count(11), 3);
        Check.same("34 given away", x.count(12), 2);
        Check.same("34 sold", x.count(13), 2);
    }

    private static void dayOpensBags() {
        FoundOffice x = Make.withTables(2);
        x.thing(BAG, 7, true, -1);
        x.thing(PERISH, 8, true, 0);
        x.thing(BAG, 0, false, 0);
        x.thing(PERISH, 0, false, 2);
        x.thing(KEY, 0, false, 0);
        Make.reports(x, 1);
        x.claim(0, 2);
        x.claim(0, 4);
        x.days(BAG, 2);
        Check.same("33 inside nothing ages", x.day(1), 0);
        Check.same("33 the bag and one inside", x.day(1), 2);
        Check.same("33 to the bag's finder", x.place(1, 5), 7);
        Check.same("33 for the bag's why", x.place(1, 7), 2);
        Check.same("33 a claimed bag comes to the shelf", x.place(2, 0), 0);
        Check.same("33 with all that is inside", x.place(3, 1), 2);
        Check.same("33 a claimed key comes to the shelf", x.place(4, 0), 0);
        Check.same("33 its claim stands", x.claimed(1, 0), 0);
        Check.same("33 its age", x.place(4, 2), 0);
        x.close(0);
        Check.same("33 the bag's own days", x.day(2), 2);
        Check.same("33 sold with its bag", x.place(3, 7), 4);
        FoundOffice y = Make.withTables(2);
        y.thing(BAG, 0, false, -1);
        y.thing(BAG, 0, false, 0);
        Make.reports(y, 1);
        y.claim(0, 0);
        y.days(BAG, 1);
        Check.same("33 a claimed bag stays", y.day(5), 0);
        y.into(1, -1);
        Check.same("33 the other one goes", y.day(1), 1);
    }

    private static void dayInItsOrder() {
        FoundOffice x = new FoundOffice();
        x.thing(KEY, 0, false, -1);
        x.thing(BAG, 0, false, -1);
        x.thing(KEY, 0, false, -1);
        x.thing(PLAIN, 0, false, -1);
        x.into(0, 1);
        x.days(KEY, 3);
        x.days(BAG, 3);
        x.days(PLAIN, 1);
        Check.same("33 all", x.day(3), 4);
        int[] due = {3, 1, 0, 2, -1};
        for (int k = 0; k < due.length; k++) {
            Check.same("35 gone " + k, x.gone(k), due[k]);
        }
        Check.same("33 it did not age inside", x.place(0, 2), 0);
        Check.same("33 one by one", x.place(3, 6), 1);
    }

    private static void count() {
        FoundOffice x = Make.withTables(2, 2, 2);
        x.thing(BAG, 0, false, -1);
        x.thing(KEY, 0, false, 0);
        x.thing(KEY, 0, false, 0);
        x.thing(PERISH, 0, false, -1);
        x.thing(PERISH, 4, true, -1);
        x.thing(KEY, 0, false, -1);
        x.thing(PLAIN, 0, false, -1);
        Make.reports(x, 4);
        x.mark(false, 6, 0, 1);
        x.claim(0, 6);
        x.claim(1, 6);
        x.claim(1, 1);
        x.claim(2, 0);
        x.withdraw(3);
        x.prove(0, 0, 1);
        x.give(0);
        x.days(KEY, 2);
        x.day(2);
        int[] due = {2, 3, 7, 4, 3, 4, 1, 1, 2, 4, 1, 1, 1, 1};
        for (int what = 0; what < due.length; what++) {
            Check.same("34 count " + what, x.count(what), due[what]);
        }
        Check.same("34 another what", x.count(14), -1);
        Check.same("34 another what", x.count(-1), -1);
        Check.same("34 another what", x.count(MAX), -1);
        Check.same("34 another what", x.count(MIN), -1);
    }

    private static void gone() {
        FoundOffice x = new FoundOffice();
        Make.things(x, 60, PERISH);
        Check.same("35 none yet", x.gone(0), -1);
        Check.same("35 all", x.day(1), 60);
        for (int k = 0; k < 60; k++) {
            Check.same("35 gone " + k, x.gone(k), k);
        }
        Check.same("35 no more", x.gone(60), -1);
        Check.same("35 below", x.gone(-1), -1);
        Check.same("35 far off", x.gone(MAX), -1);
        Check.same("35 far off", x.gone(MIN), -1);
        Check.same("33 nothing goes out twice", x.day(100), 0);
    }

    private static void deepBags() {
        FoundOffice x = Make.withTables(2);
        x.thing(BAG, 6, true, -1);
        for (int t = 1; t < 60; t++) {
            x.thing(BAG, 0, false, t - 1);
        }
        Check.no("30 sixty deep", x.into(0, 59));
        Make.reports(x, 1);
        x.claim(0, 40);
        x.days(BAG, 1);
        Check.same("33 forty bags", x.day(1), 40);
        Check.same("33 the rest stays in one another", x.place(41, 1), 40);
        Check.same("33 on the shelf", x.place(40, 0), 0);
        x.mark(false, 40, 0, 1);
        x.prove(0, 0, 1);
        Check.same("26 the rest", x.give(0), 0);
        Check.same("34 all are out", x.count(9), 60);
        Check.same("35 the last", x.gone(59), 59);
    }

    private static void noArgumentThrows() {
        int[] odd = {MIN, MIN + 1, -3, -2, -1, 0, 1, 5, 15, 16, 39, 40, 59, 60, 63, 64, 100, 101, 1 << 20, MAX};
        FoundOffice x = Make.withTables(2, 40);
        x.question(2, 0, 1);
        Make.things(x, 3, BAG);
        Make.reports(x, 3);
        x.claim(0, 1);
        for (int a : odd) {
            for (int b : odd) {
                pairs(x, a, b);
                for (int c : odd) {
                    x.mark(a > 0, a, b, c);
                    x.prove(a, b, c);
                    x.may(a, b, c, b > 0);
                    x.mays(a, b, c);
                    x.question(a, b, c);
                    x.thing(a, b, true, c);
                }
            }
        }
        Check.same("7 still of use", x.known(true, 0, 3), -1);
    }

    private static void pairs(FoundOffice x, int a, int b) {
        x.tear(b > 0, a, b);
        x.known(true, a, b);
        x.fits(a, b);
        x.tells(a, b);
        x.strength(a, b);
        x.fit(a, b);
        x.group(a, b);
        x.like(a, b);
        x.parts(a, b);
        x.claim(a, b);
        x.into(a, b);
        x.days(a, b);
        x.length(b > 0, a);
        x.best(a);
        x.sum(a);
        x.also(a);
        x.ask(a);
        x.fewest(a);
        x.fitting(a);
        x.gone(a);
        x.count(a);
        x.withdraw(a);
        x.give(a);
    }
}
