/** Promises 1 to 4, and section 1 of the terms: each sentence that names a boundary, by itself. */
public final class QuestionEdgesTest {
    private static final int MAX = Make.MAX;
    private static final int MIN = Make.MIN;
    private static final int TABLE = Make.TABLE;
    private static final int SIZE = Make.SIZE;
    private static final int SPAN = Make.SPAN;

    private QuestionEdgesTest() {
    }

    public static void main(String[] args) {
        Check.each(QuestionEdgesTest.class, 1, 2, 3, 4);
    }

    private static void p1_noneIsMinusOne() {
        Check.same("NONE", FoundOffice.NONE, -1);
    }

    private static void p1_nothingIsCounted() {
        FoundOffice x = new FoundOffice();
        for (int what = 0; what <= 13; what++) {
            Check.same("count " + what, x.count(what), 0);
        }
    }

    private static void p1_noQuestions() {
        FoundOffice x = new FoundOffice();
        Check.same("mays", x.mays(0, 0, 0), -1);
        Check.no("may", x.may(0, 0, 0, true));
        Check.same("its first question", x.question(SPAN, 0, 1), 0);
    }

    private static void p1_noThings() {
        FoundOffice x = new FoundOffice();
        Check.placeThrows("place", x, 0, 0);
        Check.same("length", x.length(false, 0), -1);
        Check.same("like", x.like(0, 0), -1);
        Check.no("into", x.into(0, -1));
        Check.same("its first thing", x.thing(0, 0, false, -1), 0);
    }

    private static void p1_noReports() {
        FoundOffice x = new FoundOffice();
        Check.same("length", x.length(true, 0), -1);
        Check.same("fitting", x.fitting(0), -1);
        Check.same("group", x.group(0, 0), -1);
        Check.no("close", x.close(0));
        Check.same("its first report", x.report(1), 0);
    }

    private static void p1_noClaims() {
        FoundOffice x = new FoundOffice();
        Check.claimedThrows("claimed", x, 0, 0);
        Check.same("give", x.give(0), 1);
        Make.things(x, 1, 0);
        Make.reports(x, 1);
        Check.same("its first claim", x.claim(0, 0), 0);
    }

    private static void p1_nothingIsGone() {
        FoundOffice x = new FoundOffice();
        Check.same("gone", x.gone(0), -1);
    }

    private static void p1_itIsDayZero() {
        FoundOffice x = new FoundOffice();
        Check.same("the day", x.count(0), 0);
        Check.same("the first day", x.day(1), 0);
        Check.same("the day", x.count(0), 1);
    }

    private static void p1_anotherOneIsNewToo() {
        FoundOffice full = Make.filled();
        full.may(0, 0, 1, true);
        full.mark(false, 0, 0, 3);
        full.days(0, 1);
        full.day(1);
        FoundOffice x = new FoundOffice();
        for (int what = 0; what <= 13; what++) {
            Check.same("count " + what, x.count(what), 0);
        }
        Make.tables(x, 40);
        Make.things(x, 1, 0);
        Check.same("nothing was told of its table", x.mays(0, 0, 1), 0);
        Check.same("its thing has no row", x.length(false, 0), -1);
        Check.same("its kinds have their days", x.day(29), 0);
        Check.same("the other one has its own", full.count(0), 1);
    }

    private static void p2_sortsAre0To2() {
        FoundOffice x = new FoundOffice();
        int[] wrong = {-1, 3, 4, 256, 1 << 16, MIN, MAX};
        for (int sort : wrong) {
            Check.same("sort " + sort + ", n 0", x.question(sort, 0, 1), -1);
            Check.same("sort " + sort + ", n 1", x.question(sort, 1, 1), -1);
        }
        Check.same("none was made", x.count(1), 0);
        Check.same("sort 0", x.question(0, 1, 1), 0);
        Check.same("sort 1", x.question(1, 1, 1), 1);
        Check.same("sort 2", x.question(2, 0, 1), 2);
    }

    private static void p2_aTableHas1To40Answers() {
        FoundOffice x = new FoundOffice();
        int[] wrong = {0, -1, 41, 257, 65537, MIN, MAX};
        for (int n : wrong) {
            Check.same("n " + n, x.question(TABLE, n, 1), -1);
        }
        Check.same("least", x.question(TABLE, 1, 1), 0);
        Check.same("most", x.question(TABLE, 40, 1), 1);
    }

    private static void p2_aSizeHasN0To10() {
        FoundOffice x = new FoundOffice();
        int[] wrong = {-1, 11, 40, 256, MIN, MAX};
        for (int n : wrong) {
            Check.same("n " + n, x.question(SIZE, n, 1), -1);
        }
        Check.same("least", x.question(SIZE, 0, 1), 0);
        Check.same("most", x.question(SIZE, 10, 1), 1);
    }

    private static void p2_aSpanHasN0() {
        FoundOffice x = new FoundOffice();
        int[] wrong = {-1, 1, 10, 256, MIN, MAX};
        for (int n : wrong) {
            Check.same("n " + n, x.question(SPAN, n, 1), -1);
        }
        Check.same("n 0", x.question(SPAN, 0, 1), 0);
    }

    private static void p2_weightIs1To100() {
        FoundOffice x = new FoundOffice();
        int[] wrong = {0, -1, 101, 257, 65537, MIN, MAX};
        for (int sort = 0; sort < 3; sort++) {
            int n = sort == TABLE ? 1 : 0;
            for (int weight : wrong) {
                Check.same("sort " + sort + ", weight " + weight, x.question(sort, n, weight), -1);
            }
            Check.same("least", x.question(sort, n, 1), 2 * sort);
            Check.same("most", x.question(sort, n, 100), 2 * sort + 1);
        }
    }

    private static void p2_thereAreSixteenAtMost() {
        FoundOffice x = new FoundOffice();
        for (int q = 0; q < 16; q++) {
            Check.same("number", x.question(q % 3, q % 3 == TABLE ? 1 : 0, 1), q);
            Check.same("count", x.count(1), q + 1);
        }
        for (int sort = 0; sort < 3; sort++) {
            Check.same("a seventeenth", x.question(sort, sort == TABLE ? 1 : 0, 1), -1);
        }
        Check.same("count", x.count(1), 16);
        Check.same("the last one is of use", x.mays(15, 0, 0), 1);
        Check.same("there is none behind it", x.mays(16, 0, 0), -1);
    }

    private static void p2_aRefusedOneTakesNoNumber() {
        FoundOffice x = Make.withTables(2);
        Check.same("refused", x.question(TABLE, 41, 1), -1);
        Check.same("there is none", x.mays(1, 0, 0), -1);
        Check.same("the next one", x.question(TABLE, 40, 1), 1);
    }

    private static void p2_aRefusedOneChangesNothing() {
        Twins.refused("a sort", Make::some, -1, x -> x.question(3, 0, 1));
        Twins.refused("a number", Make::some, -1, x -> x.question(TABLE, 41, 1));
        Twins.refused("a weight", Make::some, -1, x -> x.question(SIZE, 5, 0));
        Twins.refused("a seventeenth", Make::full, -1, x -> x.question(TABLE, 40, 100));
    }

    private static void p3_toldSo() {
        FoundOffice x = Make.withTables(3);
        Check.same("not told yet", x.mays(0, 0, 2), 0);
        Check.yes("told", x.may(0, 0, 2, true));
        Check.same("they may", x.mays(0, 0, 2), 1);
        Check.yes("told back", x.may(0, 0, 2, false));
        Check.same("they may not", x.mays(0, 0, 2), 0);
    }

    private static void p3_toldTwiceIsToldOnce() {
        FoundOffice x = Make.withTables(3);
        Check.yes("not yet", x.may(0, 0, 1, false));
        Check.yes("told", x.may(0, 0, 1, true));
        Check.yes("told again", x.may(0, 0, 1, true));
        Check.same("they may", x.mays(0, 0, 1), 1);
        Check.yes("told back once", x.may(0, 0, 1, false));
        Check.same("they may not", x.mays(0, 0, 1), 0);
    }

    private static void p3_bothWays() {
        FoundOffice x = Make.withTables(3);
        x.may(0, 0, 2, true);
        Check.same("the other way round", x.mays(0, 2, 0), 1);
        x.may(0, 2, 0, false);
        Check.same("told back the other way round", x.mays(0, 0, 2), 0);
        Check.same("and its own", x.mays(0, 2, 0), 0);
    }

    private static void p3_ofThoseTwoAlone() {
        FoundOffice x = Make.withTables(4);
        x.may(0, 0, 1, true);
        x.may(0, 1, 2, true);
        Check.same("no further", x.mays(0, 0, 2), 0);
        Check.same("no other one", x.mays(0, 0, 3), 0);
        x.may(0, 0, 1, false);
        Check.same("the other pair stays", x.mays(0, 1, 2), 1);
    }

    private static void p3_ofThatTableAlone() {
        FoundOffice x = Make.withTables(40, 40, 40);
        x.may(1, 39, 0, true);
        x.may(1, 0, 1, true);
        for (int q = 0; q <= 2; q += 2) {
            Check.same("of table " + q, x.mays(q, 39, 0) + x.mays(q, 0, 39) + x.mays(q, 0, 1) + x.mays(q, 1, 0), 0);
        }
        Check.same("of its own", x.mays(1, 0, 39), 1);
    }

    /** 32 apart: what a set of 32 bits would take for the same answer. */
    private static void p3_ofFortyAnswersEachIsItself() {
        FoundOffice x = Make.withTables(40);
        x.may(0, 0, 33, true);
        x.may(0, 39, 2, true);
        for (int b = 1; b < 40; b++) {
            Check.same("0 and " + b, x.mays(0, 0, b), b == 33 ? 1 : 0);
            Check.same("39 and " + b, x.mays(0, 39, b), b == 2 || b == 39 ? 1 : 0);
            Check.same("7 and " + b, x.mays(0, 7, b), b == 7 ? 1 : 0);
        }
        x.may(0, 0, 1, true);
        x.may(0, 0, 33, false);
        Check.same("one told back", x.mays(0, 0, 33), 0);
        Check.same("the other one stays", x.mays(0, 0, 1), 1);
    }

    private static void p3_noSuchQuestion() {
        FoundOffice x = Make.withTables(3);
        int[] wrong = {-1, 1, 15, 16, 32, MIN, MAX};
        for (int q : wrong) {
            Check.no("question " + q, x.may(q, 0, 1, true));
            Check.no("alike ones of " + q, x.may(q, 0, 0, true));
        }
        Check.yes("the last question", x.may(0, 0, 1, true));
    }

    private static void p3_noTable() {
        FoundOffice x = new FoundOffice();
        x.question(SIZE, 0, 1);
        x.question(SPAN, 0, 1);
        for (int q = 0; q < 2; q++) {
            Check.no("told", x.may(q, 101, 202, true));
            Check.no("told back", x.may(q, 101, 202, false));
            Check.no("alike ones", x.may(q, 101, 101, true));
            Check.same("they may not", x.mays(q, 101, 202), 0);
        }
    }

    private static void p3_noSuchAnswers() {
        FoundOffice x = Make.withTables(40, 1, 2);
        int[][] wrong = {{0, -1}, {0, 40}, {0, 64}, {0, MIN}, {0, MAX}, {1, 1}, {1, -1}, {2, 2}, {2, -1}};
        for (int[] w : wrong) {
            Check.no("second " + w[0] + " " + w[1], x.may(w[0], 0, w[1], true));
            Check.no("first " + w[0] + " " + w[1], x.may(w[0], w[1], 0, true));
            Check.no("both " + w[0] + " " + w[1], x.may(w[0], w[1], w[1], true));
            Check.no("told back " + w[0] + " " + w[1], x.may(w[0], 0, w[1], false));
        }
        Check.yes("the last of 40", x.may(0, 0, 39, true));
        Check.yes("the last of 40 first", x.may(0, 39, 38, true));
        Check.yes("the last of 2", x.may(2, 0, 1, true));
        Check.yes("the only one", x.may(1, 0, 0, true));
    }

    private static void p3_alikeOnesMayAtAnyRate() {
        FoundOffice x = Make.withTables(3);
        Check.yes("told", x.may(0, 1, 1, true));
        Check.same("they may", x.mays(0, 1, 1), 1);
        Check.same("no others", x.mays(0, 1, 0) + x.mays(0, 0, 1) + x.mays(0, 1, 2), 0);
    }

    private static void p3_alikeOnesThatMayNot() {
        FoundOffice x = Make.withTables(3, 1);
        for (int a = 0; a < 3; a++) {
            Check.no("of 3", x.may(0, a, a, false));
            Check.same("they still may", x.mays(0, a, a), 1);
        }
        Check.no("of 1", x.may(1, 0, 0, false));
        Check.same("it still may", x.mays(1, 0, 0), 1);
    }

    private static void p3_theLastOfSixteen() {
        FoundOffice x = new FoundOffice();
        for (int q = 0; q < 16; q++) {
            x.question(TABLE, 40, 1);
        }
        Check.yes("told", x.may(15, 39, 38, true));
        Check.same("they may", x.mays(15, 38, 39), 1);
        Check.same("not of the one before", x.mays(14, 38, 39), 0);
        Check.no("none behind it", x.may(16, 0, 1, true));
    }

    private static void p3_aRefusedOneChangesNothing() {
        Twins.isFalse("no question", Make::some, x -> x.may(4, 0, 1, true));
        Twins.isFalse("a size", Make::some, x -> x.may(1, 0, 1, true));
        Twins.isFalse("a span", Make::some, x -> x.may(2, 0, 1, true));
        Twins.isFalse("no answer", Make::some, x -> x.may(0, 0, 3, true));
        Twins.isFalse("no answer told back", Make::some, x -> x.may(0, -1, 0, false));
        Twins.isFalse("alike ones that may not", Make::some, x -> x.may(0, 1, 1, false));
    }

    private static void p4_noSuchQuestion() {
        FoundOffice x = Make.withTables(3);
        int[] wrong = {-1, 1, 15, 16, MIN, MAX};
        for (int q : wrong) {
            Check.same("question " + q, x.mays(q, 0, 0), -1);
        }
        Check.same("the last one", x.mays(0, 0, 0), 1);
    }

    private static void p4_theLastOfSixteen() {
        FoundOffice x = Make.filled();
        Check.same("question 13, a size", x.mays(13, 30000, 29999), 0);
        Check.same("question 14, a span", x.mays(14, 99, 9999), 1);
        Check.same("question 15, a table", x.mays(15, 39, 39), 1);
        Check.same("question 16", x.mays(16, 0, 0), -1);
    }

    private static void p4_aRefusedOneChangesNothing() {
        Twins.refused("no question", Make::some, -1, x -> x.mays(4, 0, 0));
        Twins.refused("no answer", Make::some, -1, x -> x.mays(0, 0, 3));
    }

    private static void neitherAnswers(FoundOffice x, int q, int[] wrong, int right) {
        for (int a : wrong) {
            Check.same("first " + a, x.mays(q, a, right), -1);
            Check.same("second " + a, x.mays(q, right, a), -1);
            Check.same("both " + a, x.mays(q, a, a), -1);
        }
    }

    private static void p4_answersOfATable() {
        FoundOffice x = Make.withTables(1, 40);
        neitherAnswers(x, 0, new int[] {-1, 1, -2, 32, MIN, MAX}, 0);
        neitherAnswers(x, 1, new int[] {-1, 40, 41, MIN, MAX}, 0);
        Check.same("the only one", x.mays(0, 0, 0), 1);
        Check.same("the least", x.mays(1, 0, 0), 1);
        Check.same("the greatest", x.mays(1, 39, 39), 1);
    }

    private static void p4_answersOfASize() {
        FoundOffice x = new FoundOffice();
        x.question(SIZE, 10, 1);
        neitherAnswers(x, 0, new int[] {-1, 30001, 1 << 16, MIN, MAX}, 5);
        Check.same("the least", x.mays(0, 0, 0), 1);
        Check.same("the greatest", x.mays(0, 30000, 30000), 1);
    }

    private static void p4_answersOfASpan() {
        FoundOffice x = new FoundOffice();
        x.question(SPAN, 0, 1);
        neitherAnswers(x, 0, new int[] {-1, 10000, 10099, -9999, MIN, MAX}, 99);
        neitherAnswers(x, 0, new int[] {100, 199 + 1, 5049, 9998, 9900, 201}, 99);
        int[] right = {0, 1, 99, 101, 199, 5050, 5051, 9899, 9999};
        for (int a : right) {
            Check.same("answer " + a, x.mays(0, a, a), 1);
        }
    }

    private static void p4_tableAlikeOrTold() {
        FoundOffice x = Make.withTables(3);
        Check.same("alike", x.mays(0, 2, 2), 1);
        Check.same("not told", x.mays(0, 1, 2), 0);
        x.may(0, 1, 2, true);
        Check.same("told", x.mays(0, 1, 2), 1);
    }

    /** The greater one is 30000, so that a tenth of it is 3000. */
    private static void p4_sizeByNTenthsAtMost() {
        FoundOffice x = new FoundOffice();
        for (int n = 0; n <= 10; n++) {
            x.question(SIZE, n, 1);
            int least = 3000 * (10 - n);
            Check.same(n + " at most", x.mays(n, least, 30000), 1);
            Check.same(n + " at most, the other way round", x.mays(n, 30000, least), 1);
            if (n < 10) {
                Check.same(n + " one less", x.mays(n, least - 1, 30000), 0);
                Check.same(n + " one less, the other way round", x.mays(n, 30000, least - 1), 0);
            }
        }
    }

    private static void p4_sizeIsNotRounded() {
        FoundOffice x = new FoundOffice();
        x.question(SIZE, 1, 1);
        x.question(SIZE, 9, 1);
        Check.same("10 of 15", x.mays(0, 14, 15), 1);
        Check.same("20 of 15", x.mays(0, 13, 15), 0);
        Check.same("10 of 9", x.mays(0, 8, 9), 0);
        Check.same("10 of 10", x.mays(0, 9, 10), 1);
        Check.same("90 of 90", x.mays(1, 1, 10), 1);
        Check.same("90 of 81", x.mays(1, 0, 9), 0);
    }

    private static void p4_sizeOfTheGreaterOne() {
        FoundOffice x = new FoundOffice();
        x.question(SIZE, 5, 1);
        Check.same("half of the greater one", x.mays(0, 50, 100), 1);
        Check.same("more than half of the lesser one", x.mays(0, 51, 100), 1);
        Check.same("less than half of the greater one", x.mays(0, 49, 100), 0);
    }

    private static void p4_sizeZero() {
        FoundOffice x = new FoundOffice();
        for (int n = 0; n <= 10; n++) {
            x.question(SIZE, n, 1);
            Check.same("both 0, n " + n, x.mays(n, 0, 0), 1);
            Check.same("0 and 1, n " + n, x.mays(n, 0, 1), n == 10 ? 1 : 0);
            Check.same("1 and 0, n " + n, x.mays(n, 1, 0), n == 10 ? 1 : 0);
            Check.same("0 and 30000, n " + n, x.mays(n, 0, 30000), n == 10 ? 1 : 0);
        }
    }

    private static void p4_spanNotAboveTheOthersEnd() {
        FoundOffice x = new FoundOffice();
        x.question(SPAN, 0, 1);
        int[][] touching = {{1020, 2030}, {1020, 1010}, {1020, 2020}, {0, 99}, {99, 9999}, {9999, 9999}, {0, 0}};
        int[][] apart = {{1020, 2130}, {1020, 909}, {1020, 2121}, {0, 101}, {98, 9999}, {9898, 9999}};
        for (int[] w : touching) {
            Check.same(w[0] + " " + w[1], x.mays(0, w[0], w[1]), 1);
            Check.same(w[1] + " " + w[0], x.mays(0, w[1], w[0]), 1);
        }
        for (int[] w : apart) {
            Check.same(w[0] + " " + w[1], x.mays(0, w[0], w[1]), 0);
            Check.same(w[1] + " " + w[0], x.mays(0, w[1], w[0]), 0);
        }
    }

    private static void p4_spanInOneAnother() {
        FoundOffice x = new FoundOffice();
        x.question(SPAN, 0, 1);
        Check.same("inside", x.mays(0, 99, 5050), 1);
        Check.same("around", x.mays(0, 5050, 99), 1);
        Check.same("overlapping", x.mays(0, 1030, 2040), 1);
    }
}
