import java.util.Arrays;

/** Promises 20 to 23, what parts things: each sentence that names a boundary, by itself. */
public final class AskingEdgesTest {
    private static final int PLAIN = Make.PLAIN;
    private static final int PERISH = Make.PERISH;
    private static final int TOO_MANY = -2;

    private AskingEdgesTest() {
    }

    public static void main(String[] args) {
        Check.each(AskingEdgesTest.class, 20, 21, 22, 23);
    }

    private static FoundOffice withThings(int things, int... tables) {
        FoundOffice x = Make.withTables(tables);
        Make.things(x, things, PLAIN);
        Make.reports(x, 1);
        return x;
    }

    private static int[] times(int n, int value) {
        int[] all = new int[n];
        Arrays.fill(all, value);
        return all;
    }

    private static void p20_noQuestionPartsThem() {
        FoundOffice x = withThings(2, 3, 3);
        Check.same("both missing", x.like(0, 1), 1);
        Make.row(x, false, 0, 1, 2);
        Make.row(x, false, 1, 1, 2);
        Check.same("the same answers", x.like(0, 1), 1);
        x.mark(false, 1, 0, 2);
        Check.same("the first parts them", x.like(0, 1), 0);
        x.mark(false, 1, 0, 1);
        x.mark(false, 1, 1, 1);
        Check.same("the last parts them", x.like(0, 1), 0);
    }

    private static void p20_theSameAnswerIsNotOneThatMayBe() {
        FoundOffice x = withThings(2, 3);
        x.may(0, 1, 2, true);
        x.mark(false, 0, 0, 1);
        x.mark(false, 1, 0, 2);
        Check.same("told so", x.like(0, 1), 0);
    }

    private static void p20_thoseThatDoNotKnowItAreAClass() {
        FoundOffice x = withThings(3, 3, 3);
        x.mark(false, 0, 0, 0);
        Check.same("one knows it", x.like(0, 1), 0);
        Check.same("the other way round", x.like(1, 0), 0);
        x.mark(false, 1, 1, -1);
        Check.same("missing and nothing there", x.like(1, 2), 1);
        x.tear(false, 1, 0);
        Check.same("missing and no places", x.like(1, 2), 1);
    }

    private static void p20_itself() {
        FoundOffice x = withThings(1, 3);
        Check.same("missing", x.like(0, 0), 1);
        x.mark(false, 0, 0, 2);
        Check.same("known", x.like(0, 0), 1);
    }

    private static void p20_alsoOut() {
        FoundOffice x = Make.withTables(3);
        Make.things(x, 1, PLAIN);
        Make.things(x, 2, PERISH);
        x.mark(false, 2, 0, 1);
        x.day(1);
        Check.same("alike", x.like(0, 1), 1);
        Check.same("unlike", x.like(0, 2), 0);
        Check.same("both out", x.like(1, 2), 0);
    }

    private static void p20_noSuchOnes() {
        FoundOffice x = withThings(2, 3);
        int[] wrong = {-1, 2, 60, 64, Make.MIN, Make.MAX};
        for (int t : wrong) {
            Check.same("first " + t, x.like(t, 0), -1);
            Check.same("second " + t, x.like(0, t), -1);
            Check.same("both " + t, x.like(t, t), -1);
        }
        Check.same("the last one", x.like(1, 1), 1);
        Check.same("on a new object", new FoundOffice().like(0, 0), -1);
    }

    private static void p20_onAFullObject() {
        FoundOffice x = Make.filled();
        Check.same("the last two", x.like(59, 58), 1);
        x.mark(false, 59, 15, 0);
        Check.same("parted by the last question", x.like(59, 58), 0);
        Check.same("none behind it", x.like(60, 60), -1);
    }

    private static void p20_aRefusedOneChangesNothing() {
        Twins.refused("no such ones", Make::some, -1, x -> x.like(0, 7));
    }

    private static void p21_noneAndOne() {
        FoundOffice x = withThings(0, 3);
        Check.same("of no things", x.parts(0, 0), 0);
        Make.things(x, 1, PLAIN);
        Check.same("of one thing that doesn't know", x.parts(0, 0), 1);
        x.mark(false, 0, 0, 2);
        Check.same("of one thing that knows", x.parts(0, 0), 1);
    }

    private static void p21_thoseThatKnowTheSameAnswer() {
        FoundOffice x = withThings(4, 4);
        int[] answers = {3, 0, 3, 0};
        for (int t = 0; t < 4; t++) {
            x.mark(false, t, 0, answers[t]);
        }
        Check.same("two answers", x.parts(0, 0), 2);
        x.mark(false, 3, 0, 1);
        Check.same("three answers", x.parts(0, 0), 3);
        x.may(0, 0, 1, true);
        Check.same("they may be of one thing, but are not the same", x.parts(0, 0), 3);
    }

    private static void p21_thoseThatDoNotKnowItIfThereAreSuch() {
        FoundOffice x = withThings(3, 3, 3);
        x.mark(false, 0, 0, 1);
        Check.same("one knows", x.parts(0, 0), 2);
        x.mark(false, 1, 0, 1);
        x.mark(false, 2, 1, 1);
        Check.same("two know, one has nothing there", x.parts(0, 0), 2);
        x.mark(false, 2, 0, 1);
        Check.same("all know", x.parts(0, 0), 1);
        x.tear(false, 2, 0);
        Check.same("one is torn", x.parts(0, 0), 2);
    }

    private static void p21_fortyAnswersAndThoseThatDoNotKnow() {
        FoundOffice x = withThings(60, 40);
        for (int t = 0; t < 40; t++) {
            x.mark(false, t, 0, t);
        }
        Check.same("41", x.parts(0, 0), 41);
        Check.same("the question", x.ask(0), 0);
    }

    private static void p21_sixtyClasses() {
        FoundOffice x = withThings(60);
        x.question(Make.SIZE, 0, 1);
        for (int t = 0; t < 60; t++) {
            x.mark(false, t, 0, 30000 - t);
        }
        Check.same("60", x.parts(0, 0), 60);
    }

    private static void p21_whatItFits() {
        FoundOffice x = withThings(4, 5, 2);
        for (int t = 0; t < 4; t++) {
            Make.row(x, false, t, t, t % 2);
        }
        x.mark(true, 0, 1, 0);
        Check.same("of two things", x.parts(0, 0), 2);
        Check.same("by what it told itself", x.parts(0, 1), 1);
    }

    private static void p21_answersOfOthersMakeNoDifference() {
        FoundOffice x = Make.withTables(3, 3);
        x.thing(PERISH, 0, false, -1);
        Make.things(x, 2, PLAIN);
        Make.reports(x, 1);
        Make.row(x, false, 0, 1, 0);
        Make.row(x, false, 1, 1, 1);
        Make.row(x, false, 2, 1, 0);
        x.mark(true, 0, 1, 0);
        Check.same("two of three", x.parts(0, 0), 1);
        x.day(1);
        Check.same("the last one", x.parts(0, 0), 1);
        Check.same("none parts them", x.ask(0), -1);
    }

    private static void p21_thoseThatAreOut() {
        FoundOffice x = withThings(1, 3);
        Make.things(x, 1, PERISH);
        x.mark(false, 0, 0, 1);
        x.mark(false, 1, 0, 2);
        Check.same("two", x.parts(0, 0), 2);
        x.day(1);
        Check.same("one", x.parts(0, 0), 1);
        x.day(29);
        Check.same("none", x.parts(0, 0), 0);
    }

    private static void p21_alsoClosed() {
        FoundOffice x = withThings(2, 3);
        x.mark(false, 0, 0, 1);
        x.close(0);
        Check.same("closed", x.parts(0, 0), 2);
    }

    private static void p21_noSuchOnes() {
        FoundOffice x = withThings(2, 3);
        int[] wrong = {-1, 1, 16, 60, 64, Make.MIN, Make.MAX};
        for (int i : wrong) {
            Check.same("report " + i, x.parts(i, 0), -1);
            Check.same("question " + i, x.parts(0, i), -1);
            Check.same("both " + i, x.parts(i, i), -1);
        }
        Check.same("the last ones", x.parts(0, 0), 1);
        Check.same("on a new object", new FoundOffice().parts(0, 0), -1);
        Check.same("on a full one", Make.filled().parts(59, 15), 1);
        Check.same("behind a full one's", Make.filled().parts(59, 16), -1);
        Check.same("behind a full one's", Make.filled().parts(60, 15), -1);
    }

    private static void p21_aRefusedOneChangesNothing() {
        Twins.refused("no report", Make::some, -1, x -> x.parts(4, 0));
        Twins.refused("no question", Make::some, -1, x -> x.parts(0, 4));
    }

    private static void p22_theMostClasses() {
        FoundOffice x = withThings(4, 4, 4, 4);
        for (int t = 0; t < 4; t++) {
            Make.row(x, false, t, t / 2, Math.min(t, 2), t / 3);
        }
        Check.same("three classes", x.ask(0), 1);
        x.mark(false, 0, 2, 3);
        x.mark(false, 1, 2, 2);
        Check.same("four classes", x.ask(0), 2);
    }

    private static void p22_theFirstOfSeveral() {
        FoundOffice x = withThings(3, 3, 3, 3);
        for (int t = 0; t < 3; t++) {
            Make.row(x, false, t, 0, t, t);
        }
        Check.same("the first of two", x.ask(0), 1);
        for (int t = 0; t < 3; t++) {
            x.mark(false, t, 0, 2 - t);
        }
        Check.same("the first of three", x.ask(0), 0);
    }

    private static void p22_noneParts() {
        FoundOffice x = withThings(0, 3, 3);
        Check.same("no things", x.ask(0), -1);
        Make.things(x, 1, PLAIN);
        x.mark(false, 0, 0, 1);
        Check.same("one thing", x.ask(0), -1);
        Make.things(x, 1, PLAIN);
        x.mark(false, 1, 0, 1);
        Check.same("two that are alike", x.ask(0), -1);
        Check.same("without questions", withThings(2).ask(0), -1);
    }

    private static void p22_twoClassesAreEnough() {
        FoundOffice x = withThings(2, 3, 3);
        x.mark(false, 1, 1, 0);
        Check.same("one knows it", x.ask(0), 1);
    }

    private static void p22_whatItFits() {
        FoundOffice x = withThings(3, 3, 3);
        Make.row(x, false, 0, 0, 0);
        Make.row(x, false, 1, 1, 0);
        Make.row(x, false, 2, 2, 1);
        Check.same("of all", x.ask(0), 0);
        x.mark(true, 0, 1, 1);
        Check.same("of one", x.ask(0), -1);
    }

    private static void p22_thoseThatAreOut() {
        FoundOffice x = withThings(2, 3, 3);
        Make.things(x, 1, PERISH);
        x.mark(false, 2, 0, 1);
        x.mark(false, 1, 1, 1);
        Check.same("the one that is out later is parted", x.ask(0), 0);
        x.day(1);
        Check.same("the one that is left", x.ask(0), 1);
    }

    private static void p22_alsoClosed() {
        FoundOffice x = withThings(2, 3);
        x.mark(false, 0, 0, 1);
        x.close(0);
        Check.same("closed", x.ask(0), 0);
    }

    private static void p22_theLastQuestion() {
        FoundOffice x = Make.filled();
        Check.same("none", x.ask(59), -1);
        x.mark(false, 59, 15, 0);
        Check.same("the last", x.ask(59), 15);
        Check.same("none behind the last report", x.ask(60), -1);
    }

    private static void p22_noSuchReport() {
        FoundOffice x = withThings(2, 3);
        x.mark(false, 0, 0, 1);
        int[] wrong = {-1, 1, 60, 64, Make.MIN, Make.MAX};
        for (int r : wrong) {
            Check.same("report " + r, x.ask(r), -1);
        }
        Check.same("on a new object", new FoundOffice().ask(0), -1);
    }

    private static void p22_aRefusedOneChangesNothing() {
        Twins.refused("no report", Make::some, -1, x -> x.ask(4));
        Twins.refused("none parts them", Make::full, -1, x -> x.ask(0));
    }

    private static void p23_noneIfNoQuestionPartsThem() {
        FoundOffice x = withThings(0, 3);
        Check.same("no things", x.fewest(0), 0);
        Make.things(x, 1, PLAIN);
        Check.same("one thing", x.fewest(0), 0);
        x.mark(false, 0, 0, 2);
        Make.things(x, 1, PLAIN);
        x.mark(false, 1, 0, 2);
        Check.same("two that are alike", x.fewest(0), 0);
        Check.same("without questions", withThings(12).fewest(0), 0);
    }

    private static void p23_oneMoreThanForTheClasses() {
        FoundOffice x = withThings(2, 3, 3);
        x.mark(false, 0, 0, 2);
        Check.same("one knows", x.fewest(0), 1);
        x.mark(false, 1, 0, 2);
        Check.same("both know", x.fewest(0), 0);
        Make.things(x, 2, PLAIN);
        x.mark(false, 0, 1, 0);
        x.mark(false, 2, 1, 0);
        Check.same("two by two", x.fewest(0), 2);
    }

    private static void p23_twelveThings() {
        FoundOffice x = withThings(12, 12, 2);
        for (int t = 0; t < 12; t++) {
            x.mark(false, t, 0, t);
        }
        Check.same("twelve at once", x.fewest(0), 1);
        x.mark(false, 11, 0, 10);
        Check.same("two of them are alike", x.fewest(0), 1);
        x.mark(false, 11, 1, 0);
        Check.same("and are parted", x.fewest(0), 2);
    }

    private static void p23_elevenNeededForTwelve() {
        FoundOffice x = withThings(12, times(11, 2));
        for (int t = 0; t < 11; t++) {
            x.mark(false, t, t, 1);
        }
        Check.same("each question takes out one", x.fewest(0), 11);
    }

    private static void p23_moreThanTwelve() {
        FoundOffice x = withThings(12, 3);
        Check.same("twelve", x.fewest(0), 0);
        Make.things(x, 1, PLAIN);
        Check.same("thirteen", x.fewest(0), TOO_MANY);
        x.mark(false, 12, 0, 1);
        x.mark(true, 0, 0, 0);
        Check.same("thirteen, and it fits twelve", x.fewest(0), 0);
        Check.same("sixty", Make.filled().fewest(59), TOO_MANY);
    }

    private static void p23_moreThanTwelveThatAreOut() {
        FoundOffice x = withThings(12, 3);
        Make.things(x, 1, PERISH);
        Check.same("thirteen", x.fewest(0), TOO_MANY);
        x.day(1);
        Check.same("one is out", x.fewest(0), 0);
    }

    private static void p23_theGreatestOfTheClasses() {
        FoundOffice x = withThings(5, 2, 2, 2);
        int[][] rows = {{0, 0, 0}, {0, 0, 1}, {0, 1, 0}, {0, 1, 1}, {1, 0, 0}};
        for (int t = 0; t < 5; t++) {
            Make.row(x, false, t, rows[t]);
        }
        Check.same("four in one class, one in the other", x.fewest(0), 3);
        x.mark(false, 3, 0, 1);
        x.mark(false, 4, 2, 1);
        Check.same("three and two", x.fewest(0), 3);
        x.mark(false, 0, 2, 1);
        Check.same("two are alike now", x.fewest(0), 2);
    }

    /** Question 0 makes four classes, but leaves five in one; by the others alone it is three by halves. */
    private static void p23_theLeastOverAllQuestions() {
        FoundOffice x = withThings(8, 4, 2, 2, 2);
        for (int t = 0; t < 8; t++) {
            Make.row(x, false, t, Math.max(0, t - 4), t & 1, t >> 1 & 1, t >> 2);
        }
        Check.same("the most classes", x.ask(0), 0);
        Check.same("the fewest", x.fewest(0), 3);
        for (int t = 0; t < 8; t++) {
            x.mark(false, t, 0, t / 2);
        }
        Check.same("four by two", x.fewest(0), 2);
    }

    private static void p23_twelveByThreesAndHalves() {
        FoundOffice x = withThings(12, 3, 2, 2);
        for (int t = 0; t < 12; t++) {
            Make.row(x, false, t, t % 3, t / 3 % 2, t / 6);
        }
        Check.same("three, two and two", x.fewest(0), 3);
        x.mark(false, 5, 2, -1);
        Check.same("one that doesn't know", x.fewest(0), 3);
        x.mark(false, 5, 2, 1);
        Check.same("two that are alike", x.fewest(0), 3);
        x.mark(true, 0, 0, 2);
        Check.same("of four, two are alike", x.fewest(0), 2);
        x.mark(true, 0, 0, 1);
        Check.same("of four", x.fewest(0), 2);
    }

    private static void p23_anotherQuestionForEachClass() {
        FoundOffice x = withThings(4, 2, 2, 2);
        Make.row(x, false, 0, 0, 0, 0);
        Make.row(x, false, 1, 0, 1, 0);
        Make.row(x, false, 2, 1, 0, 0);
        Make.row(x, false, 3, 1, 0, 1);
        Check.same("the second or the third", x.fewest(0), 2);
        FoundOffice y = withThings(5, 3, 2, 2);
        Make.row(y, false, 0, 0, 0, 0);
        Make.row(y, false, 1, 1, 0, 0);
        Make.row(y, false, 2, 2, 0, 0);
        Make.row(y, false, 3, 0, 1, 0);
        Make.row(y, false, 4, 0, 1, 1);
        Check.same("the most classes", y.ask(0), 0);
        Check.same("the second, then the first or the third", y.fewest(0), 2);
    }

    private static void p23_allSixteenQuestions() {
        FoundOffice x = withThings(3, times(16, 2));
        x.mark(false, 0, 14, 0);
        x.mark(false, 1, 15, 0);
        Check.same("the last two", x.fewest(0), 2);
    }

    private static void p23_alsoClosed() {
        FoundOffice x = withThings(2, 3);
        x.mark(false, 0, 0, 1);
        x.close(0);
        Check.same("closed", x.fewest(0), 1);
    }

    private static void p23_aRefusedOneChangesNothing() {
        Twins.refused("no report", Make::some, -1, x -> x.fewest(4));
        Twins.refused("too many", Make::full, TOO_MANY, x -> x.fewest(0));
    }

    private static void p23_noSuchReport() {
        FoundOffice x = withThings(13, 3);
        int[] wrong = {-1, 1, 60, 64, Make.MIN, Make.MAX};
        for (int r : wrong) {
            Check.same("report " + r, x.fewest(r), -1);
        }
        Check.same("the last one", x.fewest(0), TOO_MANY);
        Check.same("on a new object", new FoundOffice().fewest(0), -1);
        Check.same("behind a full one's", Make.filled().fewest(60), -1);
    }
}
