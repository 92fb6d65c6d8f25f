/** Promise 26, and how a thing goes out by it: each sentence that names a boundary, by itself. */
public final class GiveEdgesTest {
    private static final int PLAIN = Make.PLAIN;
    private static final int BAG = Make.BAG;
    private static final int WORTH = Make.WORTH;
    private static final int STANDS = 0;
    private static final int PROVED = 1;
    private static final int WITHDRAWN = 2;
    private static final int REFUSED = 3;
    private static final int GIVEN = 4;
    private static final int LOST = 5;
    private static final int SHELF = 0;
    private static final int INSIDE = 1;
    private static final int OUT = 2;

    private GiveEdgesTest() {
    }

    public static void main(String[] args) {
        Check.each(GiveEdgesTest.class, 26);
    }

    private static void questions(FoundOffice x, int reports) {
        Make.tables(x, 3, 3);
        Make.reports(x, reports);
    }

    /** Things that know the answer 1 to question 0, and reports that know nothing. */
    private static FoundOffice with(int things, int kind, int reports) {
        FoundOffice x = new FoundOffice();
        questions(x, reports);
        for (int t = 0; t < things; t++) {
            thing(x, kind, -1);
        }
        return x;
    }

    private static int thing(FoundOffice x, int kind, int bag) {
        int t = x.thing(kind, 5, true, bag);
        x.mark(false, t, 0, 1);
        return t;
    }

    private static int proved(FoundOffice x, int r, int t) {
        int c = x.claim(r, t);
        Check.same("proved", x.prove(c, 0, 1), 0);
        return c;
    }

    private static void isPlaced(FoundOffice x, int... due) {
        for (int t = 0; t < due.length; t++) {
            Check.same("thing " + t, x.place(t, 0), due[t]);
        }
    }

    private static void isClaimed(FoundOffice x, int... due) {
        for (int c = 0; c < due.length; c++) {
            Check.same("claim " + c, x.claimed(c, 0), due[c]);
        }
    }

    private static void isGone(FoundOffice x, int... due) {
        for (int k = 0; k < due.length; k++) {
            Check.same("gone " + k, x.gone(k), due[k]);
        }
        Check.same("no more", x.gone(due.length), -1);
        Check.same("so many", x.count(9), due.length);
    }

    private static void p26_noSuchClaim() {
        FoundOffice x = with(1, PLAIN, 1);
        Check.same("none yet", x.give(0), 1);
        proved(x, 0, 0);
        int[] wrong = {-1, 1, 60, 64, 100, Make.MIN, Make.MAX};
        for (int c : wrong) {
            Check.same("claim " + c, x.give(c), 1);
        }
        Check.same("the last one", x.give(0), 0);
        Check.same("on a new object", new FoundOffice().give(0), 1);
    }

    private static void p26_itDoesNotStand() {
        FoundOffice x = with(1, PLAIN, 4);
        for (int r = 0; r < 4; r++) {
            proved(x, r, 0);
        }
        x.withdraw(0);
        x.prove(1, 0, 2);
        Check.same("withdrawn", x.give(0), 1);
        Check.same("refused", x.give(1), 1);
        x.give(2);
        isClaimed(x, WITHDRAWN, REFUSED, GIVEN, LOST);
        Check.same("given", x.give(2), 1);
        Check.same("lost", x.give(3), 1);
        Check.same("nothing goes out twice", x.count(9), 1);
    }

    private static void p26_itIsNotProved() {
        FoundOffice x = with(1, PLAIN, 1);
        x.claim(0, 0);
        Check.same("not proved", x.give(0), 2);
        Check.same("it stands", x.claimed(0, 0), STANDS);
        x.prove(0, 0, 1);
        Check.same("proved", x.give(0), 0);
    }

    private static void p26_aLesserNumberStandsAndIsProved() {
        FoundOffice x = with(1, PLAIN, 3);
        proved(x, 0, 0);
        proved(x, 1, 0);
        proved(x, 2, 0);
        Check.same("the third", x.give(2), 3);
        Check.same("the second", x.give(1), 3);
        isClaimed(x, PROVED, PROVED, PROVED);
        x.withdraw(0);
        Check.same("the third, behind the second", x.give(2), 3);
        Check.same("the second", x.give(1), 0);
    }

    private static void p26_theNextLesserNumber() {
        FoundOffice x = with(1, PLAIN, 2);
        x.claim(0, 0);
        x.withdraw(0);
        proved(x, 0, 0);
        proved(x, 1, 0);
        Check.same("claim 1 is proved", x.give(2), 3);
        x.prove(1, 0, 2);
        Check.same("claim 1 is refused", x.give(2), 0);
    }

    private static void p26_aLesserNumberThatIsNotProved() {
        FoundOffice x = with(1, PLAIN, 2);
        x.claim(0, 0);
        proved(x, 1, 0);
        Check.same("it stands alone", x.give(1), 0);
        isClaimed(x, LOST, GIVEN);
    }

    private static void p26_aLesserNumberOnAnotherThing() {
        FoundOffice x = with(2, PLAIN, 2);
        proved(x, 0, 0);
        proved(x, 1, 1);
        Check.same("on another one", x.give(1), 0);
        isClaimed(x, PROVED, GIVEN);
    }

    private static void p26_aGreaterNumber() {
        FoundOffice x = with(1, PLAIN, 2);
        proved(x, 0, 0);
        proved(x, 1, 0);
        Check.same("the lesser one", x.give(0), 0);
        isClaimed(x, GIVEN, LOST);
    }

    private static void p26_theReportDoesNotFitAnyMore() {
        FoundOffice x = with(1, PLAIN, 1);
        x.mark(false, 0, 1, 0);
        proved(x, 0, 0);
        x.mark(true, 0, 1, 2);
        Check.same("it told something else", x.give(0), 4);
        Check.same("it stands", x.claimed(0, 0), PROVED);
        x.may(1, 0, 2, true);
        Check.same("that may be", x.give(0), 0);
    }

    private static void p26_itIsItsOwnReportThatHasToFit() {
        FoundOffice x = with(2, PLAIN, 2);
        x.mark(false, 0, 1, 0);
        x.mark(false, 1, 1, 0);
        proved(x, 1, 0);
        proved(x, 0, 1);
        x.mark(true, 0, 1, 2);
        Check.same("claim 0, of report 1", x.give(0), 0);
        Check.same("claim 1, of report 0", x.give(1), 4);
    }

    private static void p26_aWorthIsHeldBackOnce() {
        FoundOffice x = with(1, WORTH, 1);
        proved(x, 0, 0);
        Check.same("the first time", x.give(0), 5);
        Check.same("it stands", x.claimed(0, 0), PROVED);
        Check.same("it is here", x.place(0, 0), SHELF);
        Check.same("its report is open", x.count(4), 1);
        Check.same("the next time", x.give(0), 0);
        Check.same("out", x.place(0, 0), OUT);
    }

    private static void p26_anotherKindIsNot() {
        for (int kind = 0; kind < 6; kind++) {
            FoundOffice x = with(1, kind, 1);
            proved(x, 0, 0);
            Check.same("kind " + kind, x.give(0), kind == WORTH ? 5 : 0);
        }
    }

    private static void p26_aWorthInABagIsNot() {
        FoundOffice x = with(1, BAG, 1);
        thing(x, WORTH, 0);
        proved(x, 0, 0);
        Check.same("the bag", x.give(0), 0);
        isPlaced(x, OUT, OUT);
    }

    private static void p26_eachClaimHasItsFirstTime() {
        FoundOffice x = with(2, WORTH, 2);
        proved(x, 0, 0);
        proved(x, 1, 0);
        proved(x, 1, 1);
        Check.same("claim 0", x.give(0), 5);
        Check.same("claim 2, another thing", x.give(2), 5);
        x.withdraw(0);
        Check.same("claim 1, the same thing", x.give(1), 5);
        proved(x, 0, 0);
        Check.same("not so far", x.give(3), 3);
        x.withdraw(1);
        Check.same("claim 3, the same report on the same thing", x.give(3), 5);
        Check.same("claim 3", x.give(3), 0);
        Check.same("claim 2", x.give(2), 0);
    }

    private static void p26_laterClaimsMakeNoDifference() {
        FoundOffice x = with(2, WORTH, 3);
        proved(x, 0, 0);
        Check.same("the first time", x.give(0), 5);
        x.claim(1, 0);
        x.claim(0, 1);
        proved(x, 2, 0);
        Check.same("the next time", x.give(0), 0);
    }

    private static void p26_theFirstTimeIsWhenItComesSoFar() {
        FoundOffice x = with(1, WORTH, 2);
        x.mark(false, 0, 1, 0);
        x.claim(0, 0);
        x.claim(1, 0);
        Check.same("not proved", x.give(1), 2);
        x.prove(0, 0, 1);
        x.prove(1, 0, 1);
        Check.same("a lesser number", x.give(1), 3);
        x.withdraw(0);
        x.mark(true, 1, 1, 1);
        Check.same("it doesn't fit", x.give(1), 4);
        x.mark(true, 1, 1, -1);
        Check.same("so far", x.give(1), 5);
        x.mark(true, 1, 1, 1);
        Check.same("it doesn't fit", x.give(1), 4);
        x.mark(true, 1, 1, -1);
        x.prove(1, 0, 1);
        Check.same("not held back again", x.give(1), 0);
    }

    private static void p26_theFirstThatHolds() {
        FoundOffice x = with(2, WORTH, 3);
        x.mark(false, 0, 1, 0);
        proved(x, 0, 0);
        x.claim(1, 0);
        proved(x, 2, 0);
        x.mark(true, 1, 1, 1);
        x.mark(true, 2, 1, 1);
        Check.same("not proved, a lesser number, it doesn't fit", x.give(1), 2);
        Check.same("a lesser number, it doesn't fit, a worth", x.give(2), 3);
        x.withdraw(0);
        Check.same("it doesn't fit, a worth", x.give(2), 4);
        x.withdraw(2);
        Check.same("it doesn't stand, it doesn't fit", x.give(2), 1);
    }

    private static void p26_aRefusedOneChangesNothing() {
        Twins.refused("no claim", Make::some, 1, x -> x.give(4));
        Twins.refused("it doesn't stand", Make::some, 1, x -> x.give(3));
        Twins.refused("not proved", Make::some, 2, x -> x.give(2));
        Twins.refused("a lesser number", x -> {
            Make.some(x);
            x.prove(2, 0, 0);
        }, 3, x -> x.give(2));
        Twins.refused("it doesn't fit", x -> {
            Make.some(x);
            x.mark(true, 1, 0, 2);
        }, 4, x -> x.give(1));
        Twins.refused("a worth, the next time", x -> {
            Make.some(x);
            x.give(1);
            x.mark(true, 1, 0, 2);
        }, 4, x -> x.give(1));
    }

    private static void p26_aWorthThatIsHeldBackStaysAsItWas() {
        Twins.refusedForNow("the first time", Make::some, 5, x -> x.give(1));
    }

    private static void p26_outToItsReportsPerson() {
        FoundOffice x = with(2, PLAIN, 0);
        x.report(1);
        x.report(999);
        x.day(4);
        proved(x, 0, 0);
        proved(x, 1, 1);
        x.give(1);
        x.day(1);
        x.give(0);
        int[] first = {OUT, -1, 4, PLAIN, 5, 1, 5, 1, 0, 0};
        int[] second = {OUT, -1, 4, PLAIN, 5, 999, 4, 1, 0, 0};
        for (int what = 0; what < first.length; what++) {
            Check.same("first " + what, x.place(0, what), first[what]);
            Check.same("second " + what, x.place(1, what), second[what]);
        }
        isGone(x, 1, 0);
    }

    private static void p26_onTheFirstDayOfAll() {
        FoundOffice x = with(1, PLAIN, 1);
        proved(x, 0, 0);
        x.give(0);
        Check.same("day 0", x.place(0, 6), 0);
    }

    private static void p26_theClaimIsGivenAndTheReportClosed() {
        FoundOffice x = with(1, PLAIN, 2);
        proved(x, 0, 0);
        x.give(0);
        Check.same("given", x.claimed(0, 0), GIVEN);
        Check.same("one is open", x.count(4), 1);
        Check.same("closed", x.group(0, 0), -1);
        Check.same("no more claims", x.claim(0, 0), -1);
        Check.no("not to be closed", x.close(0));
    }

    private static void p26_itsOtherClaimsThatStandAreWithdrawn() {
        FoundOffice x = with(5, PLAIN, 2);
        proved(x, 0, 0);
        x.claim(0, 1);
        proved(x, 0, 2);
        x.claim(0, 3);
        x.prove(3, 0, 2);
        x.claim(1, 1);
        proved(x, 1, 4);
        x.give(0);
        isClaimed(x, GIVEN, WITHDRAWN, WITHDRAWN, REFUSED, STANDS, PROVED);
        isPlaced(x, OUT, SHELF, SHELF, SHELF, SHELF);
    }

    private static void p26_claimsOnItThatStandAreLost() {
        FoundOffice x = with(2, PLAIN, 6);
        x.claim(0, 0);
        x.claim(1, 0);
        x.claim(2, 0);
        x.claim(3, 0);
        proved(x, 4, 0);
        proved(x, 5, 0);
        x.claim(0, 1);
        x.withdraw(1);
        x.prove(2, 0, 0);
        x.give(4);
        isClaimed(x, LOST, WITHDRAWN, REFUSED, LOST, GIVEN, LOST, STANDS);
        Check.same("none on it", x.place(0, 9), 0);
        Check.same("those of other reports stay open", x.count(4), 5);
    }

    private static void p26_itIsInsideNoBagAnyMore() {
        FoundOffice x = with(1, BAG, 2);
        thing(x, PLAIN, 0);
        thing(x, PLAIN, 0);
        proved(x, 0, 1);
        x.give(0);
        isPlaced(x, SHELF, OUT, INSIDE);
        Check.same("in no bag", x.place(1, 1), -1);
        Check.same("one is in it", x.place(0, 8), 1);
        proved(x, 1, 0);
        x.give(1);
        Check.same("the other one's person", x.place(2, 5), 102);
        Check.same("this one's person", x.place(1, 5), 101);
        isGone(x, 1, 0, 2);
    }

    private static void p26_eachThingInsideByNumbers() {
        FoundOffice x = with(6, BAG, 1);
        x.into(5, 3);
        x.into(4, 3);
        x.into(0, 4);
        x.into(2, 4);
        x.into(1, 3);
        proved(x, 0, 3);
        x.give(0);
        isGone(x, 3, 1, 4, 0, 2, 5);
        for (int t = 0; t < 6; t++) {
            Check.same("to the same one", x.place(t, 5), 101);
            Check.same("for the same why", x.place(t, 7), 1);
            Check.same("on the same day", x.place(t, 6), 0);
            Check.same("in no bag", x.place(t, 1), -1);
            Check.same("none inside", x.place(t, 8), 0);
        }
        Check.same("all by a claim", x.count(10), 6);
    }

    private static void p26_twoBagsBesideOneAnotherInside() {
        FoundOffice x = with(7, BAG, 1);
        x.into(3, 6);
        x.into(4, 6);
        x.into(5, 6);
        x.into(2, 3);
        x.into(0, 4);
        x.into(1, 4);
        proved(x, 0, 6);
        x.give(0);
        isGone(x, 6, 3, 2, 4, 0, 1, 5);
    }

    private static void p26_oneBagAfterAnother() {
        FoundOffice x = with(6, BAG, 2);
        x.into(2, 5);
        x.into(3, 2);
        x.into(0, 4);
        x.into(1, 0);
        proved(x, 0, 5);
        proved(x, 1, 4);
        Check.same("the one", x.give(0), 0);
        isPlaced(x, INSIDE, INSIDE, OUT, OUT, SHELF, OUT);
        Check.same("the other one", x.give(1), 0);
        isGone(x, 5, 2, 3, 4, 0, 1);
        int[] to = {102, 102, 101, 101, 102, 101};
        for (int t = 0; t < to.length; t++) {
            Check.same("each to its own", x.place(t, 5), to[t]);
        }
    }

    private static void p26_aClaimOfAnotherReportInside() {
        FoundOffice x = with(1, BAG, 3);
        thing(x, PLAIN, 0);
        thing(x, PLAIN, 0);
        thing(x, PLAIN, 0);
        proved(x, 0, 0);
        x.claim(1, 1);
        proved(x, 2, 3);
        x.give(0);
        isPlaced(x, OUT, SHELF, OUT, SHELF);
        isClaimed(x, GIVEN, STANDS, PROVED);
        Check.same("in no bag", x.place(1, 1), -1);
        Check.same("it can be given", x.give(2), 0);
    }

    private static void p26_aClaimOfAnotherReportThatDoesNotStand() {
        FoundOffice x = with(1, BAG, 3);
        thing(x, PLAIN, 0);
        thing(x, PLAIN, 0);
        proved(x, 0, 0);
        x.claim(1, 1);
        x.claim(1, 2);
        x.withdraw(1);
        x.prove(2, 0, 0);
        x.give(0);
        isPlaced(x, OUT, OUT, OUT);
        isClaimed(x, GIVEN, WITHDRAWN, REFUSED);
    }

    private static void p26_aClaimOfAnotherReportOfTheSamePerson() {
        FoundOffice x = with(1, BAG, 0);
        x.report(7);
        x.report(7);
        thing(x, PLAIN, 0);
        proved(x, 0, 0);
        x.claim(1, 1);
        x.give(0);
        isPlaced(x, OUT, SHELF);
        isClaimed(x, GIVEN, STANDS);
        Check.same("it is open", x.count(4), 1);
    }

    private static void p26_aClaimOfTheSameReportInside() {
        FoundOffice x = with(1, BAG, 2);
        thing(x, PLAIN, 0);
        thing(x, PLAIN, 0);
        proved(x, 0, 0);
        x.claim(0, 1);
        proved(x, 0, 2);
        x.claim(1, 2);
        x.give(0);
        isPlaced(x, OUT, OUT, SHELF);
        isClaimed(x, GIVEN, WITHDRAWN, WITHDRAWN, STANDS);
        Check.same("none on it", x.place(1, 9), 0);
        Check.same("one on it", x.place(2, 9), 1);
    }

    private static void p26_withAllThatIsInsideIt() {
        FoundOffice x = with(1, BAG, 2);
        thing(x, BAG, 0);
        thing(x, BAG, 1);
        thing(x, PLAIN, 2);
        thing(x, PLAIN, 1);
        proved(x, 0, 0);
        x.claim(1, 1);
        x.give(0);
        isPlaced(x, OUT, SHELF, INSIDE, INSIDE, INSIDE);
        Check.same("in it", x.place(2, 1), 1);
        Check.same("in that", x.place(3, 1), 2);
        isGone(x, 0);
    }

    private static void p26_aClaimDeepInside() {
        FoundOffice x = with(1, BAG, 2);
        thing(x, BAG, 0);
        thing(x, PLAIN, 1);
        thing(x, PLAIN, 1);
        proved(x, 0, 0);
        x.claim(1, 2);
        x.give(0);
        isPlaced(x, OUT, OUT, SHELF, OUT);
        isClaimed(x, GIVEN, STANDS);
        isGone(x, 0, 1, 3);
    }

    private static void p26_whatIsInNoBagStays() {
        FoundOffice x = with(2, BAG, 1);
        thing(x, PLAIN, 1);
        thing(x, PLAIN, -1);
        proved(x, 0, 0);
        x.give(0);
        isPlaced(x, OUT, SHELF, INSIDE, SHELF);
    }

    private static void p26_sixtyBagsInOneAnother() {
        FoundOffice x = with(1, BAG, 1);
        for (int t = 1; t < 60; t++) {
            x.thing(BAG, 0, false, t - 1);
        }
        proved(x, 0, 0);
        Check.same("given", x.give(0), 0);
        for (int k = 0; k < 60; k++) {
            Check.same("gone " + k, x.gone(k), k);
        }
        Check.same("all by a claim", x.count(10), 60);
    }

    private static void p26_fiftyNineInOneBag() {
        FoundOffice x = with(0, BAG, 1);
        for (int t = 0; t < 59; t++) {
            x.thing(t % 6, 0, false, -1);
        }
        thing(x, BAG, -1);
        for (int t = 0; t < 59; t++) {
            x.into(t, 59);
        }
        proved(x, 0, 59);
        x.give(0);
        Check.same("the bag", x.gone(0), 59);
        for (int k = 1; k < 60; k++) {
            Check.same("gone " + k, x.gone(k), k - 1);
        }
    }

    private static void p26_theLastOfAHundred() {
        FoundOffice x = Make.filled();
        x.mark(false, 1, 0, 39);
        Check.same("claim 100", x.give(100), 1);
        Check.same("not proved", x.give(99), 2);
        x.prove(99, 0, 39);
        x.prove(60, 0, 39);
        Check.same("the first on this thing is proved", x.give(99), 3);
        x.withdraw(60);
        Check.same("given", x.give(99), 0);
        Check.same("to its report's person", x.place(1, 5), 140);
        Check.same("its other claim", x.claimed(39, 0), WITHDRAWN);
        Check.same("the others on it", x.claimed(98, 0), LOST);
        Check.same("those on the other thing stand", x.count(6), 59);
    }
}
