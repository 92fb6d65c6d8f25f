/** Promises 16 to 19, and section 3 of the terms: each sentence that names a boundary, by itself. */
public final class MatchEdgesTest {
    private static final int TABLE = Make.TABLE;
    private static final int PLAIN = Make.PLAIN;
    private static final int PERISH = Make.PERISH;
    private static final int TOO_LARGE = -2;

    private MatchEdgesTest() {
    }

    public static void main(String[] args) {
        Check.each(MatchEdgesTest.class, 16, 17, 18, 19);
    }

    /** All of them in one group, each report fitting each thing by nothing that it knows. */
    private static FoundOffice open(int reports, int things) {
        FoundOffice x = new FoundOffice();
        Make.reports(x, reports);
        Make.things(x, things, PLAIN);
        return x;
    }

    /** Each question is known by at most one thing, so that its weight times 12 is what it is worth. */
    private static FoundOffice weights(int reports, int things, int... weights) {
        FoundOffice x = open(reports, things);
        for (int weight : weights) {
            x.question(TABLE, 40, weight);
        }
        return x;
    }

    private static void know(FoundOffice x, boolean report, int of, int... questions) {
        for (int q : questions) {
            Check.yes("mark", x.mark(report, of, q, 0));
        }
    }

    private static void isBest(FoundOffice x, int... due) {
        for (int r = 0; r < due.length; r++) {
            Check.same("best of " + r, x.best(r), due[r]);
        }
    }

    /** Report number step * i fits the things i - 1 and i alone, so that each hangs on the next one. */
    private static FoundOffice chain(int reports, int step) {
        FoundOffice x = Make.withTables(40);
        Make.reports(x, reports);
        Make.things(x, reports - 1, PLAIN);
        for (int t = 0; t < reports - 1; t++) {
            x.mark(false, t, 0, t);
            x.may(0, 20 + t, t, true);
            x.may(0, 21 + t, t, true);
        }
        for (int i = 0; i < reports; i++) {
            x.mark(true, i * step % reports, 0, 20 + i);
        }
        return x;
    }

    private static void p16_tenReportsAreNotTooMany() {
        isBest(open(10, 3), 0, 1, 2, -1, -1, -1, -1, -1, -1, -1);
    }

    private static void p16_elevenReportsAreTooMany() {
        FoundOffice x = open(11, 1);
        for (int r = 0; r < 11; r++) {
            Check.same("report " + r, x.best(r), TOO_LARGE);
        }
    }

    private static void p16_twentyThingsAreNotTooMany() {
        isBest(open(3, 20), 0, 1, 2);
        isBest(open(1, 20), 0);
    }

    private static void p16_twentyOneThingsAreTooMany() {
        isBest(open(3, 21), TOO_LARGE, TOO_LARGE, TOO_LARGE);
        isBest(open(1, 21), TOO_LARGE);
    }

    private static void p16_tenReportsAndTwentyThings() {
        FoundOffice x = open(10, 20);
        isBest(x, 0, 1, 2, 3, 4, 5, 6, 7, 8, 9);
        x.report(7);
        Check.same("eleven and twenty", x.best(0), TOO_LARGE);
        x.close(10);
        x.thing(PLAIN, 0, false, -1);
        Check.same("ten and twenty-one", x.best(0), TOO_LARGE);
    }

    private static void p16_sixtyReportsInAGroup() {
        FoundOffice x = Make.filled();
        Check.same("the first", x.best(0), TOO_LARGE);
        Check.same("the last", x.best(59), TOO_LARGE);
        Check.same("none behind it", x.best(60), -1);
    }

    private static void p16_thingsOfOneAreThoseOfAll() {
        FoundOffice x = Make.withTables(3);
        Make.reports(x, 2);
        Make.things(x, 21, PLAIN);
        for (int t = 1; t < 21; t++) {
            x.mark(false, t, 0, 1);
        }
        x.mark(true, 0, 0, 2);
        Check.same("it fits one, the other one fits all", x.best(0), TOO_LARGE);
        Check.same("the other one", x.best(1), TOO_LARGE);
        x.close(1);
        Check.same("by itself", x.best(0), 0);
    }

    /** Six groups of ten reports and ten things each. */
    private static void p16_noGroupIsTooLargeForTheOthers() {
        FoundOffice x = Make.withTables(6);
        Make.reports(x, 60);
        Make.things(x, 60, PLAIN);
        for (int i = 0; i < 60; i++) {
            x.mark(true, i, 0, i % 6);
            x.mark(false, i, 0, i % 6);
        }
        for (int r = 0; r < 60; r++) {
            Check.same("best of " + r, x.best(r), r);
        }
        Check.same("the sum of one group", x.sum(59), 10);
    }

    private static void p16_closedOnesAreNotOfTheGroup() {
        FoundOffice x = open(11, 11);
        x.close(3);
        Check.same("ten are open", x.best(10), 9);
        Check.same("it takes none", x.best(4), 3);
        Check.same("the closed one", x.best(3), -1);
    }

    private static void p16_thingsThatAreOutAreNotOfTheGroup() {
        FoundOffice x = open(2, 20);
        x.thing(PERISH, 0, false, -1);
        Check.same("twenty-one", x.best(0), TOO_LARGE);
        x.day(1);
        Check.same("twenty", x.best(0), 0);
        FoundOffice y = open(2, 0);
        y.thing(PERISH, 0, false, -1);
        Make.things(y, 2, PLAIN);
        isBest(y, 0, 1);
        y.day(1);
        isBest(y, 1, 2);
    }

    private static void p16_thingsInsideBagsAreOfTheGroup() {
        FoundOffice x = new FoundOffice();
        x.thing(Make.BAG, 0, false, -1);
        x.thing(PLAIN, 0, false, 0);
        Make.reports(x, 2);
        isBest(x, 0, 1);
    }

    private static void p16_noneThatItFits() {
        FoundOffice x = Make.withTables(2);
        Make.reports(x, 2);
        Check.same("no things", x.best(0), -1);
        x.thing(PLAIN, 0, false, -1);
        x.mark(false, 0, 0, 0);
        x.mark(true, 0, 0, 1);
        isBest(x, -1, 0);
    }

    private static void p16_closedComesAheadOfTooLarge() {
        FoundOffice x = open(12, 1);
        x.close(0);
        Check.same("closed", x.best(0), -1);
        Check.same("open", x.best(1), TOO_LARGE);
    }

    private static void p16_noSuchReport() {
        FoundOffice x = open(2, 2);
        int[] wrong = {-1, 2, 60, 64, Make.MIN, Make.MAX};
        for (int r : wrong) {
            Check.same("report " + r, x.best(r), -1);
        }
        Check.same("the last one", x.best(1), 1);
        Check.same("on a new object", new FoundOffice().best(0), -1);
    }

    private static void p16_givenOnesAreClosed() {
        FoundOffice x = Make.withTables(2);
        Make.reports(x, 2);
        Make.things(x, 2, PLAIN);
        x.mark(false, 0, 0, 1);
        x.claim(0, 0);
        x.prove(0, 0, 1);
        x.give(0);
        isBest(x, -1, 1);
    }

    private static void p16_noThingToTwo() {
        isBest(open(2, 1), 0, -1);
        FoundOffice x = weights(2, 2, 10);
        know(x, false, 1, 0);
        know(x, true, 0, 0);
        know(x, true, 1, 0);
        isBest(x, 0, 1);
    }

    private static void p16_theGreatestSum() {
        FoundOffice x = weights(2, 2, 10, 8, 9);
        know(x, false, 0, 0, 1);
        know(x, false, 1, 2);
        know(x, true, 0, 0, 2);
        know(x, true, 1, 1);
        Check.same("the greatest strength of all", x.strength(0, 0), 120);
        isBest(x, 1, 0);
        Check.same("108 and 96", x.sum(0), 204);
    }

    private static void p16_theSumComesAheadOfTheLesserNumbers() {
        FoundOffice x = weights(2, 3, 10, 10, 1);
        know(x, false, 0, 0);
        know(x, false, 1, 1);
        know(x, false, 2, 2);
        know(x, true, 0, 0, 1, 2);
        know(x, true, 1, 1);
        isBest(x, 0, 1);
        x.mark(true, 1, 0, 0);
        x.mark(true, 1, 1, -1);
        isBest(x, 1, 0);
    }

    private static void p16_theLesserNumberOfSeveralWays() {
        isBest(open(1, 3), 0);
        FoundOffice x = weights(1, 4, 10, 10);
        know(x, false, 3, 0);
        know(x, false, 2, 1);
        know(x, true, 0, 0, 1);
        isBest(x, 2);
    }

    private static void p16_theFirstReportByNumbersComesFirst() {
        isBest(open(3, 3), 0, 1, 2);
        FoundOffice x = Make.withTables(2);
        Make.reports(x, 3);
        Make.things(x, 3, PLAIN);
        x.mark(false, 0, 0, 1);
        x.mark(true, 0, 0, 0);
        isBest(x, 1, 0, 2);
    }

    private static void p16_aReportGivenNoThingComesLast() {
        FoundOffice x = weights(3, 2);
        isBest(x, 0, 1, -1);
        FoundOffice y = weights(1, 1);
        Check.same("of strength 0", y.strength(0, 0), 0);
        isBest(y, 0);
    }

    /** Thing 1 for report 0 and thing 0 for report 1 would be as strong in all, but report 0 comes first. */
    private static void p16_lesserNumbersComeAheadOfMoreThatAreGiven() {
        FoundOffice x = weights(2, 2, 10, 10);
        x.mark(false, 0, 0, 0);
        x.mark(false, 0, 1, 0);
        x.mark(false, 1, 1, 1);
        x.mark(true, 0, 0, 0);
        x.mark(true, 1, 1, 0);
        Check.same("thing 0 for report 0", x.strength(0, 0), 120);
        Check.same("thing 0 for report 1", x.strength(1, 0), 120);
        Check.same("thing 1 for report 0", x.strength(0, 1), 0);
        Check.same("thing 1 for report 1", x.strength(1, 1), -1);
        isBest(x, 0, -1);
        Check.same("the sum", x.sum(0), 120);
    }

    private static void p16_theFirstToWhichTheyGiveSomethingElse() {
        FoundOffice x = Make.withTables(40);
        Make.reports(x, 3);
        Make.things(x, 3, PLAIN);
        for (int i = 0; i < 3; i++) {
            x.mark(false, i, 0, i);
            x.mark(true, i, 0, 10 + i);
            for (int r = 0; r < 3; r++) {
                x.may(0, 10 + r, i, true);
            }
        }
        isBest(x, 0, 1, 2);
        x.may(0, 11, 2, false);
        isBest(x, 0, 1, 2);
        x.may(0, 11, 1, false);
        isBest(x, 1, 0, 2);
        x.may(0, 12, 2, false);
        isBest(x, 2, 0, 1);
    }

    /** Report p is as strong with thing 19 as 1, the least that can be; all others are of strength 0. */
    private static void p16_oneMoreOutweighsAnyLesserNumbers() {
        FoundOffice x = weights(10, 31, 1, 1);
        know(x, false, 19, 0);
        for (int t = 20; t < 31; t++) {
            x.mark(false, t, 0, 0);
            x.mark(false, t, 1, 1);
        }
        for (int r = 0; r < 10; r++) {
            x.mark(true, r, 1, 0);
        }
        for (int p = 0; p < 10; p++) {
            x.mark(true, p, 0, 0);
            Check.same("strength", x.strength(p, 19), 1);
            for (int r = 0; r < 10; r++) {
                Check.same("best of " + r, x.best(r), r < p ? r : r == p ? 19 : r - 1);
            }
            x.mark(true, p, 0, -1);
        }
    }

    /** Reports p and p + 1 are as strong with thing 0, and p + 1 fits no other one. */
    private static void p16_theLesserOfTwoNeighboursComesFirst() {
        for (int p = 0; p < 9; p++) {
            FoundOffice x = weights(10, 20, 10, 1);
            know(x, false, 0, 0);
            for (int t = 1; t < 20; t++) {
                x.mark(false, t, 1, 1);
            }
            x.mark(true, p, 0, 0);
            x.mark(true, p + 1, 0, 0);
            x.mark(true, p + 1, 1, 0);
            for (int r = 0; r < 10; r++) {
                int due = r < p ? r + 1 : r == p ? 0 : r == p + 1 ? -1 : r - 1;
                Check.same("p " + p + ", best of " + r, x.best(r), due);
            }
        }
    }

    /**
     * Report i fits the things i (600 and 12) and i + 1 (588 and 12) alone, but for report 9, which fits
     * thing 0 (1200 and 12) alone: nine give way to it.
     */
    private static FoundOffice givingWay() {
        FoundOffice x = new FoundOffice();
        x.question(TABLE, 40, 1);
        int[] weights = {50, 49, 50, 49, 100};
        for (int weight : weights) {
            x.question(Make.SIZE, 10, weight);
        }
        Make.reports(x, 10);
        Make.things(x, 10, PLAIN);
        for (int i = 0; i < 10; i++) {
            x.mark(false, i, 0, i);
            x.mark(true, i, 0, 20 + i);
            x.may(0, 20 + i, i == 9 ? 0 : i, true);
            x.may(0, 20 + i, i == 9 ? 0 : i + 1, true);
            x.mark(false, i, i % 2 == 0 ? 1 : 2, i);
            x.mark(false, i, i % 2 == 0 ? 4 : 3, i);
            x.mark(true, i, i % 2 == 0 ? 1 : 3, 0);
            x.mark(true, i, i % 2 == 0 ? 2 : 4, 0);
        }
        x.tear(true, 9, 1);
        x.mark(true, 9, 5, 0);
        x.mark(false, 0, 5, 0);
        return x;
    }

    private static void p16_allGiveWayForTheGreatestSum() {
        FoundOffice x = givingWay();
        isBest(x, 1, 2, 3, 4, 5, 6, 7, 8, 9, 0);
        Check.same("the sum", x.sum(0), 9 * 600 + 1212);
        x.close(9);
        isBest(x, 0, 1, 2, 3, 4, 5, 6, 7, 8);
        Check.same("the sum", x.sum(8), 9 * 612);
        x.close(4);
        isBest(x, 0, 1, 2, 3, -1, 5, 6, 7, 8);
    }

    /** The same the other way round: report 9 is not worth it. */
    private static void p16_noneGiveWayForALesserSum() {
        FoundOffice x = givingWay();
        x.tear(true, 9, 1);
        isBest(x, 0, 1, 2, 3, 4, 5, 6, 7, 8, -1);
        Check.same("the sum", x.sum(9), 9 * 612);
    }

    private static void p16_theOnlyThingForTheLastReport() {
        FoundOffice x = weights(10, 1, 10);
        know(x, false, 0, 0);
        know(x, true, 9, 0);
        isBest(x, -1, -1, -1, -1, -1, -1, -1, -1, -1, 0);
        Check.same("the sum", x.sum(0), 120);
        Check.same("it alone", x.also(9), 1);
    }

    private static void p16_askedAgainItIsFoundAnew() {
        FoundOffice x = weights(2, 2, 100, 1);
        know(x, false, 0, 0);
        know(x, true, 0, 0);
        know(x, true, 1, 0);
        isBest(x, 0, 1);
        Check.same("the sum", x.sum(0), 1200);
        x.close(1);
        x.mark(true, 0, 0, -1);
        know(x, false, 0, 1);
        know(x, true, 0, 1);
        isBest(x, 0, -1);
        Check.same("the sum", x.sum(0), 12);
        x.mark(false, 0, 1, -1);
        know(x, false, 1, 1);
        isBest(x, 1, -1);
    }

    /** Ten strengths of 19200 each, the most that a best way can come to. */
    private static void p16_theGreatestGroupOfTheGreatestStrengths() {
        FoundOffice x = new FoundOffice();
        for (int q = 0; q < 16; q++) {
            x.question(Make.SIZE, 10, 100);
        }
        Make.reports(x, 10);
        Make.things(x, 20, PLAIN);
        for (int q = 0; q < 16; q++) {
            for (int t = 10; t < 20; t++) {
                x.mark(false, t, q, t);
            }
            for (int r = 0; r < 10; r++) {
                x.mark(true, r, q, 0);
            }
        }
        isBest(x, 10, 11, 12, 13, 14, 15, 16, 17, 18, 19);
        Check.same("the sum", x.sum(0), 192000);
        Check.same("as strong", x.also(0), 10);
    }

    private static void p16_theLastOfSixty() {
        FoundOffice x = new FoundOffice();
        for (int i = 0; i < 60; i++) {
            x.thing(i == 40 || i == 59 ? PLAIN : PERISH, 0, false, -1);
            x.report(1 + i);
        }
        x.day(1);
        for (int r = 0; r < 60; r++) {
            if (r != 8 && r != 59) {
                x.close(r);
            }
        }
        Check.same("report 8", x.best(8), 40);
        Check.same("report 59", x.best(59), 59);
        Check.same("report 27", x.best(27), -1);
        Check.same("two of them", x.group(59, 0), 2);
        Check.same("two things", x.group(8, 1), 2);
    }

    private static void p16_aRefusedOneChangesNothing() {
        Twins.refused("closed", Make::some, -1, x -> x.best(3));
        Twins.refused("no report", Make::some, -1, x -> x.best(4));
        Twins.refused("too large", Make::full, TOO_LARGE, x -> x.best(59));
    }

    private static void p17_theSumOfItsGroup() {
        FoundOffice x = weights(3, 3, 10, 20, 40);
        for (int i = 0; i < 3; i++) {
            know(x, false, i, i);
            know(x, true, i, i);
        }
        for (int r = 0; r < 3; r++) {
            Check.same("one group", x.sum(r), 840);
        }
        FoundOffice y = weights(2, 2, 1, 10);
        Make.row(y, false, 0, 0, 0);
        Make.row(y, false, 1, 1);
        Make.row(y, true, 0, 0, 0);
        Make.row(y, true, 1, 1);
        Check.same("a group of one", y.sum(0), 132);
        Check.same("another group of one", y.sum(1), 12);
    }

    private static void p17_nothing() {
        FoundOffice x = open(1, 0);
        Check.same("no things", x.sum(0), 0);
        x.thing(PLAIN, 0, false, -1);
        Check.same("a thing of strength 0", x.sum(0), 0);
    }

    private static void p17_reportsThatAreGivenNoneAddNothing() {
        FoundOffice x = weights(2, 1, 10);
        know(x, false, 0, 0);
        know(x, true, 0, 0);
        know(x, true, 1, 0);
        Check.same("one of two", x.sum(0), 120);
        Check.same("the other one's, too", x.sum(1), 120);
    }

    private static void p17_tooLarge() {
        Check.same("ten reports", open(10, 1).sum(0), 0);
        Check.same("eleven reports", open(11, 1).sum(0), TOO_LARGE);
        Check.same("twenty things", open(1, 20).sum(0), 0);
        Check.same("twenty-one things", open(1, 21).sum(0), TOO_LARGE);
        Check.same("a full one", Make.filled().sum(59), TOO_LARGE);
    }

    private static void p17_closedOrNoSuchReport() {
        FoundOffice x = open(12, 2);
        x.close(1);
        Check.same("closed, though its group would be too large", x.sum(1), -1);
        int[] wrong = {-1, 12, 60, 64, Make.MIN, Make.MAX};
        for (int r : wrong) {
            Check.same("report " + r, x.sum(r), -1);
        }
        Check.same("the last one", x.sum(11), TOO_LARGE);
        Check.same("on a new object", new FoundOffice().sum(0), -1);
    }

    private static void p17_thingsThatAreOutAddNothing() {
        FoundOffice x = weights(1, 0, 10);
        x.thing(PERISH, 0, false, -1);
        know(x, false, 0, 0);
        know(x, true, 0, 0);
        Check.same("here", x.sum(0), 120);
        x.day(1);
        Check.same("out", x.sum(0), 0);
    }

    private static void p17_aRefusedOneChangesNothing() {
        Twins.refused("closed", Make::some, -1, x -> x.sum(3));
        Twins.refused("no report", Make::some, -1, x -> x.sum(4));
        Twins.refused("too large", Make::full, TOO_LARGE, x -> x.sum(59));
    }

    private static void p18_thatOneToo() {
        FoundOffice x = weights(1, 3, 10);
        know(x, false, 1, 0);
        know(x, true, 0, 0);
        Check.same("it alone", x.also(0), 1);
    }

    private static void p18_atLeastTheStrength() {
        FoundOffice x = weights(1, 4, 10, 10, 9);
        know(x, false, 0, 0);
        know(x, false, 1, 1);
        know(x, false, 2, 2);
        know(x, true, 0, 0, 1, 2);
        Check.same("as strong, and one less", x.also(0), 2);
        x.mark(false, 2, 2, -1);
        x.mark(false, 2, 0, 0);
        Check.same("60, 120 and 60", x.also(0), 1);
        x.mark(false, 1, 1, -1);
        Check.same("60 and 60", x.also(0), 2);
    }

    private static void p18_strongerOnesThatOthersAreGiven() {
        FoundOffice x = weights(2, 3, 10, 20);
        know(x, false, 0, 0, 1);
        know(x, false, 1, 0);
        know(x, true, 0, 0);
        know(x, true, 1, 1);
        isBest(x, 1, 0);
        Check.same("60 and 60, though one is another's", x.also(0), 2);
        Check.same("the other one's own", x.also(1), 1);
    }

    private static void p18_strengthZero() {
        Check.same("all that it fits", open(1, 20).also(0), 20);
        FoundOffice x = Make.withTables(2);
        Make.reports(x, 1);
        Make.things(x, 3, PLAIN);
        x.mark(true, 0, 0, 0);
        x.mark(false, 1, 0, 1);
        Check.same("but for what it doesn't fit", x.also(0), 2);
    }

    private static void p18_thoseThatAreOut() {
        FoundOffice x = open(1, 2);
        x.thing(PERISH, 0, false, -1);
        Check.same("three", x.also(0), 3);
        x.day(1);
        Check.same("two", x.also(0), 2);
    }

    private static void p18_givenNone() {
        FoundOffice x = open(2, 1);
        Check.same("the first", x.also(0), 1);
        Check.same("the second", x.also(1), -1);
        Check.same("no things", open(1, 0).also(0), -1);
    }

    private static void p18_tooLarge() {
        Check.same("ten reports", open(10, 1).also(0), 1);
        Check.same("eleven reports", open(11, 1).also(0), TOO_LARGE);
        Check.same("the last of them, given none", open(11, 1).also(10), TOO_LARGE);
        Check.same("twenty-one things", open(1, 21).also(0), TOO_LARGE);
        Check.same("a full one", Make.filled().also(59), TOO_LARGE);
    }

    private static void p18_closedOrNoSuchReport() {
        FoundOffice x = open(12, 2);
        x.close(1);
        Check.same("closed", x.also(1), -1);
        int[] wrong = {-1, 12, 60, 64, Make.MIN, Make.MAX};
        for (int r : wrong) {
            Check.same("report " + r, x.also(r), -1);
        }
        Check.same("the last one", x.also(11), TOO_LARGE);
        Check.same("on a new object", new FoundOffice().also(0), -1);
    }

    private static void isGroup(FoundOffice x, int r, int reports, int things) {
        Check.same("reports with " + r, x.group(r, 0), reports);
        Check.same("things with " + r, x.group(r, 1), things);
    }

    private static void p18_aRefusedOneChangesNothing() {
        Twins.refused("closed", Make::some, -1, x -> x.also(3));
        Twins.refused("no report", Make::some, -1, x -> x.also(4));
        Twins.refused("too large", Make::full, TOO_LARGE, x -> x.also(59));
    }

    private static void p19_reportsAndThings() {
        FoundOffice x = open(3, 2);
        isGroup(x, 0, 3, 2);
        int[] wrong = {-1, 2, 3, 64, Make.MIN, Make.MAX};
        for (int what : wrong) {
            Check.same("what " + what, x.group(0, what), -1);
        }
    }

    private static void p19_aRefusedOneChangesNothing() {
        Twins.refused("closed", Make::some, -1, x -> x.group(3, 0));
        Twins.refused("no report", Make::some, -1, x -> x.group(4, 1));
        Twins.refused("another what", Make::some, -1, x -> x.group(0, 2));
    }

    private static void p19_itAlone() {
        isGroup(open(1, 0), 0, 1, 0);
        isGroup(open(2, 0), 0, 1, 0);
        isGroup(open(1, 1), 0, 1, 1);
    }

    private static void p19_asLargeAsItIs() {
        isGroup(open(11, 21), 10, 11, 21);
        isGroup(Make.filled(), 0, 60, 60);
        isGroup(Make.filled(), 59, 60, 60);
    }

    private static void p19_twoThatFitOneSameThing() {
        FoundOffice x = Make.withTables(4);
        Make.reports(x, 2);
        Make.things(x, 3, PLAIN);
        for (int t = 0; t < 3; t++) {
            x.mark(false, t, 0, t);
        }
        x.mark(true, 0, 0, 0);
        x.mark(true, 1, 0, 1);
        isGroup(x, 0, 1, 1);
        isGroup(x, 1, 1, 1);
        x.may(0, 0, 1, true);
        isGroup(x, 0, 2, 2);
        isGroup(x, 1, 2, 2);
    }

    private static void p19_aRowOfReports() {
        int[] steps = {1, 3, 7, 9};
        for (int step : steps) {
            FoundOffice x = chain(10, step);
            for (int r = 0; r < 10; r++) {
                isGroup(x, r, 10, 9);
            }
        }
    }

    private static void p19_aRowOfElevenIsTooLarge() {
        int[] steps = {1, 3, 4, 10};
        for (int step : steps) {
            FoundOffice x = chain(11, step);
            isGroup(x, 0, 11, 10);
            Check.same("too large", x.best(0), TOO_LARGE);
        }
        FoundOffice y = chain(10, 3);
        Check.same("not too large", y.best(0), 0);
    }

    private static void p19_aRowThatIsBroken() {
        FoundOffice x = chain(10, 1);
        x.close(4);
        isGroup(x, 0, 4, 4);
        isGroup(x, 9, 5, 5);
        Check.same("the closed one", x.group(4, 0), -1);
    }

    private static void p19_thingsThatAreOutHangNothingTogether() {
        FoundOffice x = new FoundOffice();
        Make.reports(x, 3);
        x.thing(PERISH, 0, false, -1);
        isGroup(x, 0, 3, 1);
        x.day(1);
        isGroup(x, 0, 1, 0);
    }

    private static void p19_thingsThatClosedOnesFitAreNotOfIt() {
        FoundOffice x = Make.withTables(2);
        Make.reports(x, 2);
        Make.things(x, 2, PLAIN);
        x.mark(true, 0, 0, 0);
        x.mark(false, 1, 0, 1);
        isGroup(x, 0, 2, 2);
        x.close(1);
        isGroup(x, 0, 1, 1);
    }

    /** 32 apart: what a set of 32 bits would take for the same report or thing. */
    private static void p19_numbersFarApart() {
        FoundOffice x = Make.withTables(3);
        Make.reports(x, 60);
        for (int t = 0; t < 60; t++) {
            x.thing(t == 8 || t == 40 ? PLAIN : PERISH, 0, false, -1);
        }
        x.day(1);
        for (int r = 0; r < 60; r++) {
            x.mark(true, r, 0, r < 32 ? 0 : 1);
        }
        x.mark(false, 8, 0, 0);
        x.mark(false, 40, 0, 1);
        isGroup(x, 0, 32, 1);
        isGroup(x, 31, 32, 1);
        isGroup(x, 32, 28, 1);
        isGroup(x, 59, 28, 1);
    }

    private static void p19_closedOrNoSuchReport() {
        FoundOffice x = open(3, 1);
        x.close(1);
        int[] wrong = {-1, 1, 3, 60, 64, Make.MIN, Make.MAX};
        for (int r : wrong) {
            Check.same("reports of " + r, x.group(r, 0), -1);
            Check.same("things of " + r, x.group(r, 1), -1);
        }
        Check.same("the last one", x.group(2, 0), 2);
        Check.same("on a new object", new FoundOffice().group(0, 1), -1);
    }
}
