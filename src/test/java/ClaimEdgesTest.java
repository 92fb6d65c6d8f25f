/** Promises 24, 25 and 27 to 29, claims: each sentence that names a boundary, by itself. */
public final class ClaimEdgesTest {
    private static final int[] FAR = {-1, 60, 64, 100, Make.MIN, Make.MAX};
    private static final int PLAIN = Make.PLAIN;
    private static final int PERISH = Make.PERISH;
    private static final int STANDS = 0;
    private static final int PROVED = 1;
    private static final int WITHDRAWN = 2;
    private static final int REFUSED = 3;
    private static final int GIVEN = 4;
    private static final int LOST = 5;

    private ClaimEdgesTest() {
    }

    public static void main(String[] args) {
        Check.each(ClaimEdgesTest.class, 24, 25, 27, 28, 29);
    }

    /** Plain things that know the answer 1 to question 0, and reports that know nothing. */
    private static FoundOffice with(int things, int reports) {
        FoundOffice x = Make.withTables(3, 3);
        Make.things(x, things, PLAIN);
        Make.reports(x, reports);
        for (int t = 0; t < things; t++) {
            x.mark(false, t, 0, 1);
        }
        return x;
    }

    /** Claims 0 to 5, each in the state of its number; 0 and 2 to 3 on thing 0, the others on thing 1. */
    private static void states(FoundOffice x) {
        Make.tables(x, 3, 3);
        Make.things(x, 2, PLAIN);
        Make.reports(x, 7);
        x.mark(false, 0, 0, 1);
        x.mark(false, 1, 0, 1);
        x.claim(0, 0);
        x.claim(1, 0);
        x.claim(2, 0);
        x.claim(3, 0);
        x.claim(4, 1);
        x.claim(5, 1);
        x.prove(1, 0, 1);
        x.withdraw(2);
        x.prove(3, 0, 2);
        x.prove(4, 0, 1);
        x.give(4);
    }

    private static FoundOffice inStates() {
        FoundOffice x = new FoundOffice();
        states(x);
        return x;
    }

    private static void p24_numberedFrom0On() {
        FoundOffice x = with(2, 2);
        Check.same("the first", x.claim(1, 1), 0);
        Check.same("the second", x.claim(0, 1), 1);
        Check.same("it stands", x.claimed(0, 0), STANDS);
        Check.same("its report", x.claimed(0, 1), 1);
        Check.same("its thing", x.claimed(0, 2), 1);
        Check.same("they stand", x.place(1, 9), 2);
    }

    private static void p24_noSuchReport() {
        FoundOffice x = with(2, 2);
        for (int r : FAR) {
            Check.same("report " + r, x.claim(r, 0), -1);
        }
        Check.same("report 2", x.claim(2, 0), -1);
        Check.same("the last one", x.claim(1, 0), 0);
        Check.same("on a new object", new FoundOffice().claim(0, 0), -1);
    }

    private static void p24_closed() {
        FoundOffice x = with(2, 3);
        x.claim(1, 0);
        x.prove(0, 0, 1);
        x.give(0);
        x.close(0);
        Check.same("closed", x.claim(0, 1), -1);
        Check.same("given", x.claim(1, 1), -1);
        Check.same("open", x.claim(2, 1), 1);
    }

    private static void p24_noSuchThing() {
        FoundOffice x = with(2, 1);
        for (int t : FAR) {
            Check.same("thing " + t, x.claim(0, t), -2);
        }
        Check.same("thing 2", x.claim(0, 2), -2);
        Check.same("the last one", x.claim(0, 1), 0);
    }

    private static void p24_out() {
        FoundOffice x = with(1, 1);
        Make.things(x, 1, PERISH);
        x.day(1);
        Check.same("out", x.claim(0, 1), -3);
        Check.same("not out", x.claim(0, 0), 0);
    }

    private static void p24_insideABagIsNotOut() {
        FoundOffice x = with(0, 1);
        x.thing(Make.BAG, 0, false, -1);
        x.thing(PLAIN, 0, false, 0);
        Check.same("inside", x.claim(0, 1), 0);
        Check.same("the bag", x.claim(0, 0), 1);
    }

    private static void p24_itDoesNotFit() {
        FoundOffice x = with(1, 1);
        x.mark(true, 0, 0, 2);
        Check.same("it doesn't", x.claim(0, 0), -4);
        x.may(0, 1, 2, true);
        Check.same("it may be", x.claim(0, 0), 0);
    }

    private static void p24_aClaimOfThisReportOnItStands() {
        FoundOffice x = with(2, 2);
        x.claim(0, 0);
        Check.same("it stands", x.claim(0, 0), -5);
        x.prove(0, 0, 1);
        Check.same("it stands, and is proved", x.claim(0, 0), -5);
        Check.same("on another thing", x.claim(0, 1), 1);
        Check.same("of another report", x.claim(1, 0), 2);
        x.withdraw(0);
        Check.same("withdrawn", x.claim(0, 0), 3);
        x.prove(3, 0, 0);
        Check.same("refused", x.claim(0, 0), 4);
        Check.same("that one stands", x.claim(0, 0), -5);
    }

    private static void p24_thereAreAHundredAtMost() {
        FoundOffice x = with(2, 60);
        for (int c = 0; c < 100; c++) {
            Check.same("number", x.claim(c % 50, c / 50), c);
        }
        Check.same("a hundred and first", x.claim(50, 0), -6);
        Check.same("a hundred and first", x.claim(59, 1), -6);
        Check.same("count", x.count(5), 100);
        Check.same("the last one", x.claimed(99, 1), 49);
        Check.claimedThrows("none behind it", x, 100, 0);
    }

    private static void p24_thoseThatEndedAreOfTheHundred() {
        FoundOffice x = with(1, 1);
        for (int c = 0; c < 100; c++) {
            x.claim(0, 0);
            x.withdraw(c);
        }
        Check.same("none stands", x.count(6), 0);
        Check.same("a hundred and first", x.claim(0, 0), -6);
    }

    private static void p24_theFirstThatHolds() {
        FoundOffice x = with(2, 3);
        Make.things(x, 1, PERISH);
        x.mark(false, 2, 0, 1);
        x.claim(1, 1);
        x.mark(true, 1, 0, 2);
        x.close(2);
        x.day(1);
        Check.same("no report, no thing", x.claim(3, 3), -1);
        Check.same("closed, no thing", x.claim(2, 3), -1);
        Check.same("closed, out", x.claim(2, 2), -1);
        Check.same("no thing", x.claim(1, 3), -2);
        Check.same("out, and it doesn't fit", x.claim(1, 2), -3);
        Check.same("it doesn't fit, and one stands", x.claim(1, 1), -4);
    }

    private static void p24_theFirstThatHoldsOnAFullObject() {
        FoundOffice x = Make.filled();
        x.close(58);
        x.mark(true, 57, 0, 1);
        x.mark(false, 3, 0, 2);
        Check.same("no report", x.claim(60, 2), -1);
        Check.same("closed", x.claim(58, 2), -1);
        Check.same("no thing", x.claim(59, 60), -2);
        Check.same("it doesn't fit", x.claim(57, 3), -4);
        Check.same("one stands", x.claim(59, 0), -5);
        Check.same("there are 100", x.claim(59, 2), -6);
        x.day(1);
        Check.same("out", x.claim(59, 4), -3);
    }

    private static void p24_aRefusedOneChangesNothing() {
        Twins.refused("no report", Make::some, -1, x -> x.claim(4, 0));
        Twins.refused("closed", Make::some, -1, x -> x.claim(3, 0));
        Twins.refused("no thing", Make::some, -2, x -> x.claim(0, 7));
        Twins.refused("out", Make::some, -3, x -> x.claim(0, 6));
        Twins.refused("it doesn't fit", Make::some, -4, x -> x.claim(0, 5));
        Twins.refused("one stands", Make::some, -5, x -> x.claim(0, 1));
        Twins.refused("there are 100", Make::full, -6, x -> x.claim(59, 2));
    }

    private static void p25_noSuchClaim() {
        FoundOffice x = with(1, 1);
        Check.same("none yet", x.prove(0, 0, 1), 1);
        x.claim(0, 0);
        for (int c : FAR) {
            Check.same("claim " + c, x.prove(c, 0, 1), 1);
        }
        Check.same("claim 1", x.prove(1, 0, 1), 1);
        Check.same("the last one", x.prove(0, 0, 1), 0);
        Check.same("on a new object", new FoundOffice().prove(0, 0, 0), 1);
    }

    private static void p25_itDoesNotStand() {
        FoundOffice x = inStates();
        for (int c = 0; c < 6; c++) {
            Check.same("in state " + c, x.prove(c, 0, 1), c <= PROVED ? 0 : 1);
            Check.same("it is", x.claimed(c, 0), Math.max(c, PROVED));
        }
    }

    private static void p25_noSuchQuestion() {
        FoundOffice x = with(1, 1);
        x.claim(0, 0);
        int[] wrong = {-1, 2, 15, 16, Make.MIN, Make.MAX};
        for (int q : wrong) {
            Check.same("question " + q, x.prove(0, q, 1), 2);
        }
        Check.same("it stands", x.claimed(0, 0), STANDS);
        Check.same("the first question", x.prove(0, 0, 1), 0);
        x.mark(false, 0, 1, 2);
        Check.same("the last question", x.prove(0, 1, 2), 0);
    }

    private static void p25_itsReportKnowsThatOne() {
        FoundOffice x = with(1, 2);
        x.claim(0, 0);
        x.mark(true, 0, 0, 1);
        Check.same("right", x.prove(0, 0, 1), 3);
        Check.same("wrong", x.prove(0, 0, 2), 3);
        Check.same("it stands", x.claimed(0, 0), STANDS);
        x.mark(true, 0, 0, -1);
        Check.same("nothing is told", x.prove(0, 0, 1), 0);
    }

    private static void p25_whatIsTornIsNotTold() {
        FoundOffice x = with(1, 1);
        x.claim(0, 0);
        x.mark(true, 0, 0, 1);
        x.tear(true, 0, 0);
        Check.same("its row is not longer", x.prove(0, 0, 1), 0);
    }

    private static void p25_anotherReportMayKnowIt() {
        FoundOffice x = with(1, 2);
        x.claim(0, 0);
        x.mark(true, 1, 0, 1);
        Check.same("it was told by another one", x.prove(0, 0, 1), 0);
    }

    private static void p25_itsThingDoesNotKnowThatOne() {
        FoundOffice x = with(2, 1);
        x.mark(false, 0, 1, -1);
        x.mark(false, 1, 1, 1);
        x.claim(0, 0);
        int[] answers = {-1, 0, 1, 2};
        for (int a : answers) {
            Check.same("nothing there, " + a, x.prove(0, 1, a), 4);
        }
        x.tear(false, 0, 1);
        Check.same("its row is not longer", x.prove(0, 1, 1), 4);
        x.tear(false, 0, -1);
        Check.same("its row is missing", x.prove(0, 0, -1), 4);
        Check.same("it stands", x.claimed(0, 0), STANDS);
    }

    private static void p25_aRightAnswer() {
        FoundOffice x = with(1, 2);
        x.mark(false, 0, 0, 0);
        x.claim(0, 0);
        Check.same("the answer 0", x.prove(0, 0, 0), 0);
        Check.same("proved", x.claimed(0, 0), PROVED);
        Check.same("it stands", x.place(0, 9), 1);
        Check.same("again", x.prove(0, 0, 0), 0);
        Check.same("proved", x.claimed(0, 0), PROVED);
    }

    private static void p25_anotherAnswer() {
        int[] others = {0, 2, -1, 3, -2, Make.MIN, Make.MAX};
        for (int a : others) {
            FoundOffice x = with(1, 1);
            x.claim(0, 0);
            Check.same("answer " + a, x.prove(0, 0, a), 5);
            Check.same("refused", x.claimed(0, 0), REFUSED);
            Check.same("none stands", x.count(6) + x.place(0, 9), 0);
            Check.same("its report is open", x.count(4), 1);
        }
    }

    private static void p25_anotherAnswerRefusesThatClaimAlone() {
        FoundOffice x = with(2, 2);
        x.claim(0, 0);
        x.claim(1, 0);
        x.claim(0, 1);
        x.prove(1, 0, 1);
        x.prove(0, 0, 2);
        Check.same("the other one on its thing", x.claimed(1, 0), PROVED);
        Check.same("the other one of its report", x.claimed(2, 0), STANDS);
        Check.same("its thing knows what it knew", x.known(false, 0, 0), 1);
        Check.same("its report knows nothing", x.length(true, 0), -1);
        Check.same("its thing is here", x.place(0, 0), 0);
        Check.same("both reports are open", x.count(4), 2);
        Check.same("the other one can be given", x.give(1), 0);
    }

    private static void p25_anotherAnswerThatMayBe() {
        FoundOffice x = with(1, 1);
        x.may(0, 1, 2, true);
        x.claim(0, 0);
        Check.same("told so", x.prove(0, 0, 2), 5);
        Check.same("refused", x.claimed(0, 0), REFUSED);
    }

    private static void p25_alsoOneThatWasProved() {
        FoundOffice x = with(1, 2);
        x.claim(0, 0);
        x.claim(1, 0);
        x.prove(0, 0, 1);
        x.prove(1, 0, 1);
        Check.same("another answer", x.prove(0, 0, 2), 5);
        Check.same("refused", x.claimed(0, 0), REFUSED);
        Check.same("not to be proved again", x.prove(0, 0, 1), 1);
        Check.same("the other one stays", x.claimed(1, 0), PROVED);
    }

    private static void p25_theFirstThatHolds() {
        FoundOffice x = with(1, 2);
        x.claim(0, 0);
        x.claim(1, 0);
        x.withdraw(1);
        x.mark(true, 0, 1, 0);
        Check.same("no claim, no question", x.prove(2, 2, 0), 1);
        Check.same("it doesn't stand, no question", x.prove(1, -1, 0), 1);
        Check.same("its report knows it, its thing doesn't", x.prove(0, 1, 0), 3);
        x.mark(false, 0, 1, 1);
        Check.same("its report knows it, another answer", x.prove(0, 1, 2), 3);
        Check.same("it stands", x.claimed(0, 0), STANDS);
    }

    private static void p25_theLastOnes() {
        FoundOffice x = Make.filled();
        x.mark(false, 1, 15, 39);
        Check.same("claim 99, question 15, answer 39", x.prove(99, 15, 39), 0);
        Check.same("proved", x.claimed(99, 0), PROVED);
        Check.same("claim 100", x.prove(100, 15, 39), 1);
        Check.same("question 16", x.prove(99, 16, 39), 2);
        Check.same("the one before", x.claimed(98, 0), STANDS);
    }

    private static void p25_aRefusedOneChangesNothing() {
        Twins.refused("no claim", Make::some, 1, x -> x.prove(4, 3, 39));
        Twins.refused("it doesn't stand", Make::some, 1, x -> x.prove(3, 0, 2));
        Twins.refused("no question", Make::some, 2, x -> x.prove(2, 4, 0));
        Twins.refused("its report knows it", Make::some, 3, x -> x.prove(0, 0, 2));
        Twins.refused("its thing doesn't", Make::some, 4, x -> x.prove(1, 1, 0));
    }

    private static void p27_thatStands() {
        FoundOffice x = inStates();
        for (int c = 0; c < 6; c++) {
            Check.same("in state " + c, x.withdraw(c) ? 1 : 0, c <= PROVED ? 1 : 0);
            Check.same("it is", x.claimed(c, 0), Math.max(c, WITHDRAWN));
            Check.no("again", x.withdraw(c));
        }
    }

    private static void p27_itAlone() {
        FoundOffice x = with(2, 2);
        x.claim(0, 0);
        x.claim(0, 1);
        x.claim(1, 0);
        Check.yes("one of three", x.withdraw(0));
        Check.same("its report's other one", x.claimed(1, 0), STANDS);
        Check.same("the other one on its thing", x.claimed(2, 0), STANDS);
        Check.same("its report is open", x.count(4), 2);
        Check.same("on its thing", x.place(0, 9), 1);
        Check.same("all that stand", x.count(6), 2);
    }

    private static void p27_noSuchClaim() {
        FoundOffice x = with(1, 1);
        Check.no("none yet", x.withdraw(0));
        x.claim(0, 0);
        for (int c : FAR) {
            Check.no("claim " + c, x.withdraw(c));
        }
        Check.no("claim 1", x.withdraw(1));
        Check.yes("the last one", x.withdraw(0));
        Check.no("on a new object", new FoundOffice().withdraw(0));
    }

    private static void p27_theLastOfAHundred() {
        FoundOffice x = Make.filled();
        Check.no("claim 100", x.withdraw(100));
        Check.yes("claim 99", x.withdraw(99));
        Check.same("they stand", x.count(6), 99);
        Check.same("there are", x.count(5), 100);
    }

    private static void p27_aRefusedOneChangesNothing() {
        for (int c = WITHDRAWN; c <= LOST; c++) {
            int ended = c;
            Twins.isFalse("in state " + c, ClaimEdgesTest::states, x -> x.withdraw(ended));
        }
        Twins.isFalse("no claim", ClaimEdgesTest::states, x -> x.withdraw(6));
    }

    private static void p28_itsClaimsThatStandAreWithdrawn() {
        FoundOffice x = with(5, 2);
        for (int t = 0; t < 4; t++) {
            x.claim(0, t);
        }
        x.claim(1, 0);
        x.prove(1, 0, 1);
        x.prove(2, 0, 0);
        x.prove(4, 0, 1);
        Check.yes("closed", x.close(0));
        int[] due = {WITHDRAWN, WITHDRAWN, REFUSED, WITHDRAWN, PROVED};
        for (int c = 0; c < due.length; c++) {
            Check.same("claim " + c, x.claimed(c, 0), due[c]);
        }
        Check.same("one stands", x.count(6), 1);
        Check.same("one is open", x.count(4), 1);
    }

    private static void p28_notOpen() {
        FoundOffice x = with(1, 2);
        Check.yes("open", x.close(0));
        Check.no("closed", x.close(0));
        x.claim(1, 0);
        x.prove(0, 0, 1);
        x.give(0);
        Check.no("something was given to it", x.close(1));
        Check.same("its claim", x.claimed(0, 0), GIVEN);
    }

    private static void p28_noSuchReport() {
        FoundOffice x = with(1, 2);
        for (int r : FAR) {
            Check.no("report " + r, x.close(r));
        }
        Check.no("report 2", x.close(2));
        Check.yes("the last one", x.close(1));
        Check.same("the first one is open", x.count(4), 1);
        Check.no("on a new object", new FoundOffice().close(0));
    }

    private static void p28_theLastOfSixty() {
        FoundOffice x = Make.filled();
        Check.no("report 60", x.close(60));
        Check.yes("report 59", x.close(59));
        Check.same("open ones", x.count(4), 59);
        Check.same("all of them", x.count(3), 60);
        Check.same("its one claim is withdrawn", x.count(6), 99);
    }

    private static void p28_aRefusedOneChangesNothing() {
        Twins.isFalse("closed", Make::some, x -> x.close(3));
        Twins.isFalse("no report", Make::some, x -> x.close(4));
        Twins.isFalse("given", ClaimEdgesTest::states, x -> x.close(4));
    }

    private static void p29_howItIs() {
        FoundOffice x = inStates();
        for (int c = 0; c < 6; c++) {
            Check.same("state " + c, x.claimed(c, 0), c);
            Check.same("its report", x.claimed(c, 1), c);
            Check.same("its thing", x.claimed(c, 2), c < GIVEN ? 0 : 1);
        }
    }

    private static void p29_anotherWhat() {
        FoundOffice x = inStates();
        int[] wrong = {-1, 3, 4, 64, Make.MIN, Make.MAX};
        for (int what : wrong) {
            Check.claimedThrows("what " + what, x, 0, what);
            Check.claimedThrows("what " + what, x, 5, what);
        }
    }

    private static void p29_noSuchClaim() {
        FoundOffice x = inStates();
        for (int what = 0; what < 3; what++) {
            for (int c : FAR) {
                Check.claimedThrows("claim " + c, x, c, what);
            }
            Check.claimedThrows("claim 6", x, 6, what);
            Check.claimedThrows("on a new object", new FoundOffice(), 0, what);
        }
        Check.same("the last one", x.claimed(5, 2), 1);
    }

    private static void p29_aRefusedOneChangesNothing() {
        Twins.isThrown("no claim", Make::some, x -> x.claimed(4, 0));
        Twins.isThrown("another what", Make::some, x -> x.claimed(0, 3));
    }

    private static void p29_theLastOfAHundred() {
        FoundOffice x = Make.filled();
        Check.same("how", x.claimed(99, 0), STANDS);
        Check.same("its report", x.claimed(99, 1), 39);
        Check.same("its thing", x.claimed(99, 2), 1);
        Check.claimedThrows("claim 100", x, 100, 0);
        Check.claimedThrows("another what", x, 99, 3);
    }
}
