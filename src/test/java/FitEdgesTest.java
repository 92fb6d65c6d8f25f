/** Promises 11 to 15, what a report fits and how strongly: each sentence that names a boundary, by itself. */
public final class FitEdgesTest {
    private static final int[] FAR = {-1, 2, 60, 64, Make.MIN, Make.MAX};
    private static final int PLAIN = Make.PLAIN;
    private static final int BAG = Make.BAG;
    private static final int PERISH = Make.PERISH;

    private FitEdgesTest() {
    }

    public static void main(String[] args) {
        Check.each(FitEdgesTest.class, 11, 12, 13, 14, 15);
    }

    private static FoundOffice withBoth(int... tables) {
        FoundOffice x = Make.withTables(tables);
        Make.things(x, 2, PLAIN);
        Make.reports(x, 2);
        return x;
    }

    /** 16 questions that all answers may be of one thing to, of weight 100. */
    private static FoundOffice withAllThatMay() {
        FoundOffice x = new FoundOffice();
        for (int q = 0; q < 16; q++) {
            x.question(Make.SIZE, 10, 100);
        }
        return x;
    }

    private static void p11_noQuestionThatBothKnow() {
        FoundOffice x = withBoth(3, 3);
        Check.same("both missing", x.fits(0, 0), 1);
        x.mark(false, 0, 0, 1);
        Check.same("the report's is missing", x.fits(0, 0), 1);
        x.mark(true, 0, 1, 2);
        Check.same("each knows another one", x.fits(0, 0), 1);
        Check.same("the thing's is missing", x.fits(0, 1), 1);
    }

    private static void p11_allThatBothKnow() {
        FoundOffice x = withBoth(3, 3, 3);
        Make.row(x, false, 0, 0, 1, 2);
        Make.row(x, true, 0, 0, 1, 2);
        Check.same("all alike", x.fits(0, 0), 1);
        for (int q = 0; q < 3; q++) {
            x.mark(true, 0, q, (q + 1) % 3);
            Check.same("question " + q + " tells them apart", x.fits(0, 0), 0);
            x.mark(true, 0, q, -1);
            Check.same("question " + q + " is not known", x.fits(0, 0), 1);
        }
    }

    private static void p11_answersThatMayBeOfOneThing() {
        FoundOffice x = withBoth(3);
        x.question(Make.SIZE, 1, 1);
        x.question(Make.SPAN, 0, 1);
        Make.row(x, false, 0, 0, 100, 1020);
        Make.row(x, true, 0, 1);
        Check.same("a table, not told", x.fits(0, 0), 0);
        x.may(0, 1, 0, true);
        Check.same("a table, told", x.fits(0, 0), 1);
        x.mark(true, 0, 1, 89);
        Check.same("a size, one less", x.fits(0, 0), 0);
        x.mark(true, 0, 1, 90);
        Check.same("a size", x.fits(0, 0), 1);
        x.mark(true, 0, 2, 2130);
        Check.same("a span, behind", x.fits(0, 0), 0);
        x.mark(true, 0, 2, 2030);
        Check.same("a span, touching", x.fits(0, 0), 1);
    }

    private static void p11_aRowThatIsNotLonger() {
        FoundOffice x = withBoth(3, 3);
        Make.row(x, false, 0, 0, 1);
        Make.row(x, true, 0, 0, 2);
        Check.same("both know the last one", x.fits(0, 0), 0);
        x.tear(false, 0, 1);
        Check.same("the thing's is torn", x.fits(0, 0), 1);
        x.mark(false, 0, 1, 1);
        x.tear(true, 0, 1);
        Check.same("the report's is torn", x.fits(0, 0), 1);
    }

    private static void p11_alsoOutAlsoClosed() {
        FoundOffice x = Make.withTables(3);
        Make.things(x, 2, PERISH);
        x.report(1);
        x.mark(false, 0, 0, 1);
        x.mark(true, 0, 0, 2);
        x.day(1);
        Check.same("out, apart", x.fits(0, 0), 0);
        Check.same("out, not apart", x.fits(0, 1), 1);
        x.close(0);
        Check.same("closed, apart", x.fits(0, 0), 0);
        Check.same("closed, not apart", x.fits(0, 1), 1);
    }

    private static void p11_noSuchOnes() {
        FoundOffice x = withBoth(3);
        for (int i : FAR) {
            Check.same("report " + i, x.fits(i, 0), -1);
            Check.same("thing " + i, x.fits(0, i), -1);
            Check.same("both " + i, x.fits(i, i), -1);
        }
        Check.same("the last ones", x.fits(1, 1), 1);
        Check.same("on a new object", new FoundOffice().fits(0, 0), -1);
    }

    /** Report 0 fits the things 0 and 1, and report 1 all three. */
    private static FoundOffice threeThings() {
        FoundOffice x = Make.withTables(3, 3);
        Make.things(x, 3, PLAIN);
        Make.reports(x, 2);
        x.mark(true, 0, 1, 0);
        x.mark(false, 0, 1, 0);
        x.mark(false, 2, 1, 1);
        return x;
    }

    private static void p11_reportsAndThingsHaveNumbersOfTheirOwn() {
        FoundOffice x = threeThings();
        Check.same("report 0, thing 0", x.fits(0, 0), 1);
        Check.same("report 0, thing 2", x.fits(0, 2), 0);
        Check.same("report 1, thing 2", x.fits(1, 2), 1);
        Check.same("there is no report 2", x.fits(2, 0), -1);
    }

    private static void p11_onAFullObject() {
        FoundOffice x = Make.filled();
        x.mark(false, 59, 15, 39);
        x.mark(true, 59, 15, 38);
        Check.same("told apart by the last question", x.fits(59, 59), 0);
        Check.same("the one before", x.fits(58, 59), 1);
        Check.same("no such report", x.fits(60, 59), -1);
        Check.same("no such thing", x.fits(59, 60), -1);
    }

    private static void p11_aRefusedOneChangesNothing() {
        Twins.refused("no report", Make::some, -1, x -> x.fits(4, 0));
        Twins.refused("no thing", Make::some, -1, x -> x.fits(0, 7));
    }

    private static void p12_theFirstOne() {
        FoundOffice x = withBoth(3, 3, 3);
        Make.row(x, false, 0, 1, 1, 1);
        Make.row(x, true, 0, 2, 2, 2);
        for (int q = 0; q < 3; q++) {
            Check.same("the first", x.tells(0, 0), q);
            x.mark(true, 0, q, q == 1 ? -1 : 1);
        }
        Check.same("none", x.tells(0, 0), -1);
    }

    private static void p12_reportsAndThingsHaveNumbersOfTheirOwn() {
        FoundOffice x = threeThings();
        Check.same("report 0, thing 0", x.tells(0, 0), -1);
        Check.same("report 0, thing 2", x.tells(0, 2), 1);
        Check.same("report 1, thing 2", x.tells(1, 2), -1);
        x.mark(true, 1, 1, 2);
        Check.same("report 1, thing 2", x.tells(1, 2), 1);
        Check.same("report 1, thing 1", x.tells(1, 1), -1);
        Check.same("there is no report 2", x.tells(2, 0), -1);
        Make.reports(x, 3);
        x.mark(true, 4, 1, 2);
        Check.same("report 4, thing 0", x.tells(4, 0), 1);
        Check.same("there is no thing 4", x.tells(0, 4), -1);
    }

    private static void p12_bothKnowIt() {
        FoundOffice x = withBoth(3, 3, 3);
        Make.row(x, false, 0, -1, 1, 1);
        Make.row(x, true, 0, 2, -1, 2);
        Check.same("the one that both know", x.tells(0, 0), 2);
        x.tear(true, 0, 2);
        Check.same("torn", x.tells(0, 0), -1);
    }

    private static void p12_theyMayNotBeOfOneThing() {
        FoundOffice x = withBoth(3, 3);
        Make.row(x, false, 0, 0, 0);
        Make.row(x, true, 0, 1, 1);
        x.may(0, 0, 1, true);
        Check.same("the first may be", x.tells(0, 0), 1);
        x.may(1, 0, 1, true);
        Check.same("both may be", x.tells(0, 0), -1);
    }

    private static void p12_noSuchOnes() {
        FoundOffice x = withBoth(3);
        Make.row(x, false, 1, 1);
        Make.row(x, true, 1, 2);
        for (int i : FAR) {
            Check.same("report " + i, x.tells(i, 0), -1);
            Check.same("thing " + i, x.tells(0, i), -1);
        }
        Check.same("the last ones", x.tells(1, 1), 0);
        Check.same("on a new object", new FoundOffice().tells(0, 0), -1);
    }

    private static void p12_alsoOutAlsoClosed() {
        FoundOffice x = Make.withTables(3);
        Make.things(x, 1, PERISH);
        x.report(1);
        x.mark(false, 0, 0, 1);
        x.mark(true, 0, 0, 2);
        x.day(1);
        x.close(0);
        Check.same("the first question", x.tells(0, 0), 0);
    }

    private static void p12_onAFullObject() {
        FoundOffice x = Make.filled();
        x.mark(false, 59, 15, 39);
        x.mark(true, 59, 15, 38);
        Check.same("the last question", x.tells(59, 59), 15);
    }

    private static void p12_aRefusedOneChangesNothing() {
        Twins.refused("none", Make::some, -1, x -> x.tells(0, 0));
        Twins.refused("no report", Make::some, -1, x -> x.tells(4, 0));
        Twins.refused("no thing", Make::some, -1, x -> x.tells(0, 7));
    }

    private static void p13_nothingThatBothKnow() {
        FoundOffice x = withBoth(3, 3);
        Check.same("both missing", x.strength(0, 0), 0);
        x.mark(false, 0, 0, 1);
        x.mark(true, 0, 1, 1);
        Check.same("each knows another one", x.strength(0, 0), 0);
    }

    private static void p13_reportsAndThingsHaveNumbersOfTheirOwn() {
        FoundOffice x = threeThings();
        Check.same("report 0, thing 0", x.strength(0, 0), 12);
        Check.same("report 0, thing 1", x.strength(0, 1), 0);
        Check.same("report 0, thing 2", x.strength(0, 2), -1);
        Check.same("report 1, thing 2", x.strength(1, 2), 0);
        Check.same("there is no report 2", x.strength(2, 0), -1);
    }

    private static void p13_allThatBothKnow() {
        FoundOffice x = new FoundOffice();
        x.question(Make.TABLE, 3, 1);
        x.question(Make.TABLE, 3, 10);
        x.question(Make.TABLE, 3, 100);
        Make.things(x, 1, PLAIN);
        Make.reports(x, 1);
        Make.row(x, false, 0, 1, 1, 1);
        Make.row(x, true, 0, 1, -1, 1);
        Check.same("two of three", x.strength(0, 0), 12 + 1200);
        x.mark(true, 0, 1, 1);
        Check.same("all three", x.strength(0, 0), 12 + 120 + 1200);
        x.tear(true, 0, 2);
        Check.same("two places", x.strength(0, 0), 12 + 120);
        x.tear(false, 0, 1);
        Check.same("one place of the thing's", x.strength(0, 0), 12);
    }

    private static void p13_theWholePart() {
        FoundOffice x = new FoundOffice();
        x.question(Make.TABLE, 2, 1);
        Make.things(x, 13, PLAIN);
        Make.reports(x, 1);
        x.mark(true, 0, 0, 1);
        int[] due = {12, 6, 4, 3, 2, 2, 1, 1, 1, 1, 1, 1, 0};
        for (int t = 0; t < 13; t++) {
            x.mark(false, t, 0, 1);
            Check.same(t + 1 + " know it", x.strength(0, 0), due[t]);
        }
    }

    private static void p13_weightTimesTwelveIsDivided() {
        FoundOffice x = new FoundOffice();
        x.question(Make.TABLE, 2, 5);
        Make.things(x, 5, PLAIN);
        Make.reports(x, 1);
        x.mark(true, 0, 0, 1);
        for (int t = 0; t < 5; t++) {
            x.mark(false, t, 0, 1);
        }
        Check.same("60 divided by 5", x.strength(0, 0), 12);
    }

    private static void p13_eachQuestionIsDividedByItself() {
        FoundOffice x = new FoundOffice();
        x.question(Make.TABLE, 2, 2);
        x.question(Make.TABLE, 2, 2);
        Make.things(x, 5, PLAIN);
        Make.reports(x, 1);
        Make.row(x, true, 0, 1, 1);
        for (int t = 0; t < 5; t++) {
            Make.row(x, false, t, 1, 1);
        }
        Check.same("24 divided by 5, twice", x.strength(0, 0), 8);
    }

    private static void p13_byThoseWithJustThatAnswer() {
        FoundOffice x = Make.withTables(4);
        Make.things(x, 4, PLAIN);
        Make.reports(x, 2);
        x.may(0, 1, 2, true);
        x.mark(false, 0, 0, 1);
        x.mark(false, 1, 0, 2);
        x.mark(false, 2, 0, 2);
        x.mark(true, 0, 0, 2);
        x.mark(true, 1, 0, 1);
        Check.same("one has the thing's answer", x.strength(0, 0), 12);
        Check.same("two have the thing's answer", x.strength(0, 1), 6);
        Check.same("not the report's answer", x.strength(1, 1), 6);
    }

    private static void p13_byThingsThatAreNotOut() {
        FoundOffice x = Make.withTables(2);
        x.thing(PLAIN, 0, false, -1);
        x.thing(PERISH, 0, false, -1);
        x.report(1);
        x.mark(false, 0, 0, 1);
        x.mark(false, 1, 0, 1);
        x.mark(true, 0, 0, 1);
        Check.same("two", x.strength(0, 0), 6);
        x.day(1);
        Check.same("one", x.strength(0, 0), 12);
    }

    private static void p13_thisOneCountsEvenIfItIsOut() {
        FoundOffice x = Make.withTables(2);
        x.thing(PLAIN, 0, false, -1);
        x.thing(PERISH, 0, false, -1);
        x.thing(PERISH, 0, false, -1);
        x.report(1);
        for (int t = 0; t < 3; t++) {
            x.mark(false, t, 0, 1);
        }
        x.mark(true, 0, 0, 1);
        x.day(1);
        Check.same("it and the one that is not out", x.strength(0, 1), 6);
        x.mark(false, 0, 0, 0);
        Check.same("it alone", x.strength(0, 1), 12);
    }

    private static void p13_thoseInsideBagsCount() {
        FoundOffice x = Make.withTables(2);
        x.thing(BAG, 0, false, -1);
        x.thing(PLAIN, 0, false, 0);
        x.report(1);
        x.mark(false, 0, 0, 1);
        x.mark(false, 1, 0, 1);
        x.mark(true, 0, 0, 1);
        Check.same("both", x.strength(0, 0), 6);
        Check.same("both", x.strength(0, 1), 6);
    }

    private static void p13_weightsFrom1To100() {
        FoundOffice x = new FoundOffice();
        x.question(Make.TABLE, 2, 1);
        x.question(Make.TABLE, 2, 100);
        Make.things(x, 2, PLAIN);
        Make.reports(x, 1);
        Make.row(x, true, 0, 1, 1);
        x.mark(false, 0, 0, 1);
        x.mark(false, 1, 1, 1);
        Check.same("the least", x.strength(0, 0), 12);
        Check.same("the greatest", x.strength(0, 1), 1200);
    }

    private static void p13_theGreatestOfAll() {
        FoundOffice x = withAllThatMay();
        Make.things(x, 1, PLAIN);
        Make.reports(x, 1);
        for (int q = 0; q < 16; q++) {
            x.mark(false, 0, q, 30000);
            x.mark(true, 0, q, 0);
        }
        Check.same("16 times 1200", x.strength(0, 0), 19200);
    }

    private static void p13_sixtyKnowIt() {
        FoundOffice x = new FoundOffice();
        x.question(Make.TABLE, 2, 4);
        x.question(Make.TABLE, 2, 5);
        Make.things(x, 60, PLAIN);
        Make.reports(x, 2);
        for (int t = 0; t < 60; t++) {
            Make.row(x, false, t, 1, 1);
        }
        x.mark(true, 0, 0, 1);
        x.mark(true, 1, 1, 1);
        Check.same("48 divided by 60", x.strength(0, 59), 0);
        Check.same("60 divided by 60", x.strength(1, 59), 1);
    }

    private static void p13_itDoesNotFit() {
        FoundOffice x = withBoth(3, 3);
        Make.row(x, false, 0, 1, 1);
        Make.row(x, true, 0, 1, 1);
        Check.same("it fits", x.strength(0, 0), 24);
        x.mark(true, 0, 1, 2);
        Check.same("it doesn't", x.strength(0, 0), -1);
        x.mark(true, 0, 1, -1);
        Check.same("it fits again", x.strength(0, 0), 12);
    }

    private static void p13_closedOnesHaveTheirs() {
        FoundOffice x = withBoth(3);
        x.mark(false, 0, 0, 1);
        x.mark(true, 0, 0, 1);
        x.close(0);
        Check.same("closed", x.strength(0, 0), 12);
    }

    private static void p13_noSuchOnes() {
        FoundOffice x = withBoth(3);
        for (int i : FAR) {
            Check.same("report " + i, x.strength(i, 0), -1);
            Check.same("thing " + i, x.strength(0, i), -1);
        }
        Check.same("the last ones", x.strength(1, 1), 0);
        Check.same("on a new object", new FoundOffice().strength(0, 0), -1);
        Check.same("on a full one", Make.filled().strength(59, 59), 0);
        Check.same("behind a full one's", Make.filled().strength(60, 60), -1);
    }

    private static void p13_aRefusedOneChangesNothing() {
        Twins.refused("it doesn't fit", Make::some, -1, x -> x.strength(0, 5));
        Twins.refused("no report", Make::some, -1, x -> x.strength(4, 0));
        Twins.refused("no thing", Make::some, -1, x -> x.strength(0, 7));
    }

    private static void p14_noneToSixty() {
        FoundOffice x = Make.withTables(2);
        x.report(1);
        x.mark(true, 0, 0, 0);
        for (int t = 0; t < 60; t++) {
            Check.same("so far", x.fitting(0), t);
            x.thing(PLAIN, 0, false, -1);
        }
        Check.same("sixty", x.fitting(0), 60);
        x.mark(false, 59, 0, 1);
        x.mark(false, 0, 0, 1);
        x.mark(false, 1, 0, 0);
        Check.same("but for two", x.fitting(0), 58);
    }

    private static void p14_noneThatItFits() {
        FoundOffice x = withBoth(2);
        x.mark(true, 0, 0, 0);
        x.mark(false, 0, 0, 1);
        x.mark(false, 1, 0, 1);
        Check.same("none", x.fitting(0), 0);
        Check.same("the other report", x.fitting(1), 2);
    }

    private static void p14_thoseThatAreOut() {
        FoundOffice x = new FoundOffice();
        x.report(1);
        x.thing(PERISH, 0, false, -1);
        x.thing(PLAIN, 0, false, -1);
        Check.same("two", x.fitting(0), 2);
        x.day(1);
        Check.same("one", x.fitting(0), 1);
        x.day(30);
        Check.same("none", x.fitting(0), 0);
    }

    private static void p14_thoseInsideBags() {
        FoundOffice x = new FoundOffice();
        x.report(1);
        x.thing(BAG, 0, false, -1);
        x.thing(PLAIN, 0, false, 0);
        Check.same("both", x.fitting(0), 2);
    }

    private static void p14_alsoClosed() {
        FoundOffice x = withBoth(2);
        x.close(0);
        Check.same("closed", x.fitting(0), 2);
    }

    private static void p14_noSuchReport() {
        FoundOffice x = withBoth(2);
        Make.things(x, 3, PLAIN);
        for (int i : FAR) {
            Check.same("report " + i, x.fitting(i), -1);
        }
        Check.same("the last one", x.fitting(1), 5);
        Check.same("on a new object", new FoundOffice().fitting(0), -1);
    }

    private static void p14_aRefusedOneChangesNothing() {
        Twins.refused("no report", Make::some, -1, x -> x.fitting(4));
    }

    private static void p15_byNumbers() {
        FoundOffice x = Make.withTables(2);
        Make.things(x, 6, PLAIN);
        x.report(1);
        x.mark(true, 0, 0, 0);
        x.mark(false, 0, 0, 1);
        x.mark(false, 3, 0, 1);
        int[] due = {1, 2, 4, 5, -1};
        for (int k = 0; k < due.length; k++) {
            Check.same("k " + k, x.fit(0, k), due[k]);
        }
    }

    private static void p15_fromTheFirstToTheLast() {
        FoundOffice x = withBoth(2);
        int[] wrong = {-1, -2, 2, 3, 64, Make.MIN, Make.MAX};
        for (int k : wrong) {
            Check.same("k " + k, x.fit(0, k), -1);
        }
        Check.same("the first", x.fit(0, 0), 0);
        Check.same("the last", x.fit(0, 1), 1);
    }

    private static void p15_noneThatItFits() {
        FoundOffice x = Make.withTables(2);
        x.report(1);
        Check.same("no things", x.fit(0, 0), -1);
        x.thing(PLAIN, 0, false, -1);
        x.mark(false, 0, 0, 0);
        x.mark(true, 0, 0, 1);
        Check.same("none that fits", x.fit(0, 0), -1);
    }

    private static void p15_sixty() {
        FoundOffice x = Make.filled();
        for (int k = 0; k < 60; k++) {
            Check.same("k " + k, x.fit(59, k), k);
        }
        Check.same("k 60", x.fit(59, 60), -1);
    }

    /** 32 apart: what a set of 32 bits would take for the same thing. */
    private static void p15_oneOfSixty() {
        FoundOffice x = new FoundOffice();
        for (int t = 0; t < 60; t++) {
            x.thing(t == 40 || t == 59 ? PLAIN : PERISH, 0, false, -1);
        }
        x.report(1);
        x.day(1);
        Check.same("two are left", x.fitting(0), 2);
        Check.same("the first", x.fit(0, 0), 40);
        Check.same("the second", x.fit(0, 1), 59);
        Check.same("no third", x.fit(0, 2), -1);
    }

    private static void p15_thoseThatAreOut() {
        FoundOffice x = new FoundOffice();
        x.thing(PERISH, 0, false, -1);
        x.thing(PLAIN, 0, false, -1);
        x.report(1);
        x.day(1);
        Check.same("the first that is not out", x.fit(0, 0), 1);
        Check.same("no second", x.fit(0, 1), -1);
    }

    private static void p15_alsoClosed() {
        FoundOffice x = withBoth(2);
        x.close(0);
        Check.same("closed", x.fit(0, 1), 1);
    }

    private static void p15_aRefusedOneChangesNothing() {
        Twins.refused("none", Make::some, -1, x -> x.fit(0, 6));
        Twins.refused("k -1", Make::some, -1, x -> x.fit(0, -1));
        Twins.refused("no report", Make::some, -1, x -> x.fit(4, 0));
    }

    private static void p15_noSuchReport() {
        FoundOffice x = withBoth(2);
        for (int i : FAR) {
            Check.same("report " + i, x.fit(i, 0), -1);
        }
        Check.same("the last one", x.fit(1, 0), 0);
        Check.same("on a new object", new FoundOffice().fit(0, 0), -1);
    }
}
