/** Promises 30 to 35, and section 4 of the terms: each sentence that names a boundary, by itself. */
public final class PlaceEdgesTest {
    private static final int[] FAR = {-1, 60, 64, 100, Make.MIN, Make.MAX};
    private static final int PLAIN = Make.PLAIN;
    private static final int BAG = Make.BAG;
    private static final int PAPER = Make.PAPER;
    private static final int WORTH = Make.WORTH;
    private static final int PERISH = Make.PERISH;
    private static final int KEY = Make.KEY;
    private static final int SHELF = 0;
    private static final int INSIDE = 1;
    private static final int OUT = 2;

    private PlaceEdgesTest() {
    }

    public static void main(String[] args) {
        Check.each(PlaceEdgesTest.class, 30, 31, 32, 33, 34, 35);
    }

    private static FoundOffice with(int n, int kind) {
        FoundOffice x = new FoundOffice();
        Make.things(x, n, kind);
        return x;
    }

    private static void isPlaced(FoundOffice x, int... due) {
        for (int t = 0; t < due.length; t++) {
            Check.same("thing " + t, x.place(t, 0), due[t]);
        }
    }

    private static void isGone(FoundOffice x, int... due) {
        for (int k = 0; k < due.length; k++) {
            Check.same("gone " + k, x.gone(k), due[k]);
        }
        Check.same("no more", x.gone(due.length), -1);
    }

    /** Out: to whom, on which day, why. */
    private static void isOut(FoundOffice x, int t, int person, int day, int why) {
        Check.same("out", x.place(t, 0), OUT);
        Check.same("to", x.place(t, 5), person);
        Check.same("on", x.place(t, 6), day);
        Check.same("why", x.place(t, 7), why);
    }

    private static void p30_insideABagOrToTheShelf() {
        FoundOffice x = with(2, BAG);
        Check.yes("inside", x.into(1, 0));
        Check.same("its bag", x.place(1, 1), 0);
        Check.yes("to the shelf", x.into(1, FoundOffice.NONE));
        isPlaced(x, SHELF, SHELF);
        Check.same("none inside", x.place(0, 8), 0);
    }

    private static void p30_whereItIsAlready() {
        FoundOffice x = with(2, BAG);
        Check.yes("on the shelf", x.into(0, -1));
        x.into(1, 0);
        Check.yes("inside", x.into(1, 0));
        isPlaced(x, SHELF, INSIDE);
        Check.same("one inside", x.place(0, 8), 1);
    }

    private static void p30_fromOneBagToAnother() {
        FoundOffice x = with(2, BAG);
        x.thing(PLAIN, 0, false, 0);
        Check.yes("to the other one", x.into(2, 1));
        Check.same("the one", x.place(0, 8), 0);
        Check.same("the other one", x.place(1, 8), 1);
    }

    private static void p30_withAllThatIsInsideIt() {
        FoundOffice x = with(3, BAG);
        x.into(1, 0);
        x.thing(PLAIN, 0, false, 1);
        Check.yes("to another bag", x.into(1, 2));
        Check.same("what is in it", x.place(3, 1), 1);
        Check.yes("to the shelf", x.into(1, -1));
        Check.same("what is in it", x.place(3, 1), 1);
    }

    private static void p30_noSuchThing() {
        FoundOffice x = with(2, BAG);
        for (int t : FAR) {
            Check.no("thing " + t + " inside", x.into(t, 0));
            Check.no("thing " + t, x.into(t, -1));
        }
        Check.no("thing 2", x.into(2, 0));
        Check.yes("the last one", x.into(1, 0));
        Check.no("on a new object", new FoundOffice().into(0, -1));
    }

    private static void p30_itIsOut() {
        FoundOffice x = with(1, BAG);
        x.thing(PERISH, 0, false, 0);
        x.thing(PERISH, 0, false, -1);
        x.day(1);
        Check.no("inside", x.into(2, 0));
        Check.no("to the shelf", x.into(2, -1));
        isPlaced(x, SHELF, INSIDE, OUT);
        Check.yes("the one that is not out", x.into(1, -1));
    }

    private static void p30_noBag() {
        FoundOffice x = new FoundOffice();
        for (int kind = 0; kind < 6; kind++) {
            x.thing(kind, 0, false, -1);
        }
        x.thing(PLAIN, 0, false, -1);
        for (int kind = 0; kind < 6; kind++) {
            Check.same("of kind " + kind, x.into(6, kind) ? 1 : 0, kind == BAG ? 1 : 0);
        }
    }

    private static void p30_noSuchBag() {
        FoundOffice x = with(2, BAG);
        int[] wrong = {-2, 2, 60, 64, Make.MIN, Make.MAX};
        for (int bag : wrong) {
            Check.no("bag " + bag, x.into(0, bag));
        }
        Check.yes("the last one", x.into(0, 1));
    }

    private static void p30_aBagThatIsOut() {
        FoundOffice x = with(1, BAG);
        x.days(BAG, 1);
        x.day(1);
        Make.things(x, 2, BAG);
        Check.no("out", x.into(1, 0));
        Check.yes("not out", x.into(1, 2));
    }

    private static void p30_itIsThatBag() {
        FoundOffice x = with(2, BAG);
        Check.no("itself", x.into(0, 0));
        x.into(1, 0);
        Check.no("itself inside another one", x.into(1, 1));
        Check.same("it stays", x.place(1, 1), 0);
    }

    private static void p30_thatIsInsideItAtAnyDepth() {
        FoundOffice x = with(60, BAG);
        for (int t = 1; t < 60; t++) {
            Check.yes("inside the one before", x.into(t, t - 1));
        }
        for (int t = 0; t < 60; t++) {
            Check.no("the first into " + t, x.into(0, t));
            Check.no(t + " into the last", x.into(t, 59));
        }
        Check.yes("the last into the first", x.into(59, 0));
        Check.yes("the one that is the last now into that", x.into(58, 59));
        Check.no("the first into that", x.into(0, 58));
    }

    private static void p30_besideIsNotInside() {
        FoundOffice x = with(4, BAG);
        x.into(1, 0);
        x.into(2, 0);
        Check.yes("into the one beside", x.into(1, 2));
        Check.no("and back", x.into(2, 1));
        Check.yes("up", x.into(1, 0));
        Check.yes("another one into the deepest", x.into(3, 1));
        x.into(1, -1);
        Check.yes("what it was in comes into it now", x.into(0, 1));
    }

    private static void p30_claimedOnesToo() {
        FoundOffice x = with(2, BAG);
        x.report(1);
        x.claim(0, 1);
        Check.yes("inside", x.into(1, 0));
        Check.same("its claim stands", x.place(1, 9), 1);
    }

    private static void p30_onAFullObject() {
        FoundOffice x = Make.filled();
        Check.yes("the last one into the last bag", x.into(59, 55));
        Check.same("inside", x.place(59, 1), 55);
        Check.no("thing 60", x.into(60, 55));
        Check.no("bag 60", x.into(59, 60));
        Check.no("no bag", x.into(55, 59));
        Check.same("one inside", x.count(8), 1);
    }

    private static void p30_aRefusedOneChangesNothing() {
        Twins.isFalse("no thing", Make::some, x -> x.into(7, -1));
        Twins.isFalse("out", Make::some, x -> x.into(6, -1));
        Twins.isFalse("no bag", Make::some, x -> x.into(1, 5));
        Twins.isFalse("no such bag", Make::some, x -> x.into(1, -2));
        Twins.isFalse("itself", Make::some, x -> x.into(2, 2));
        Twins.isFalse("inside it", Make::some, x -> x.into(0, 2));
    }

    private static void p31_ofOneOnTheShelf() {
        FoundOffice x = with(1, KEY);
        x.thing(PAPER, 999, false, -1);
        x.day(3);
        int[] due = {SHELF, -1, 3, PAPER, 999, -1, -1, -1, 0, 0};
        for (int what = 0; what < due.length; what++) {
            Check.same("what " + what, x.place(1, what), due[what]);
        }
    }

    private static void p31_ofOneInsideABag() {
        FoundOffice x = with(2, BAG);
        x.thing(WORTH, 1, true, 1);
        x.report(1);
        x.report(1);
        x.claim(0, 2);
        x.claim(1, 2);
        x.day(3);
        int[] due = {INSIDE, 1, 0, WORTH, 1, -1, -1, -1, 0, 2};
        for (int what = 0; what < due.length; what++) {
            Check.same("what " + what, x.place(2, what), due[what]);
        }
    }

    private static void p31_ofOneThatIsOut() {
        FoundOffice x = with(1, BAG);
        x.thing(KEY, 17, true, 0);
        x.into(1, -1);
        x.day(12);
        int[] due = {OUT, -1, 10, KEY, 17, 17, 10, 2, 0, 0};
        for (int what = 0; what < due.length; what++) {
            Check.same("what " + what, x.place(1, what), due[what]);
        }
    }

    private static void p31_outToNobody() {
        FoundOffice x = with(1, PERISH);
        Check.same("not out", x.place(0, 5), -1);
        x.day(1);
        Check.same("nobody", x.place(0, 5), 0);
    }

    private static void p31_thingsInsideItAreDirectlySo() {
        FoundOffice x = with(3, BAG);
        x.into(1, 0);
        x.into(2, 1);
        x.thing(KEY, 0, false, 2);
        x.thing(KEY, 0, false, 2);
        int[] due = {1, 1, 2, 0, 0};
        for (int t = 0; t < due.length; t++) {
            Check.same("inside " + t, x.place(t, 8), due[t]);
        }
        FoundOffice y = with(60, BAG);
        for (int t = 0; t < 59; t++) {
            y.into(t, 59);
            Check.same("so far", y.place(59, 8), t + 1);
        }
        y.into(0, -1);
        Check.same("but for the first", y.place(59, 8), 58);
    }

    private static void p31_noneIsInsideOneThatIsOut() {
        FoundOffice x = with(1, BAG);
        x.thing(KEY, 0, false, 0);
        x.thing(KEY, 0, false, 0);
        x.report(1);
        x.claim(0, 1);
        x.days(BAG, 1);
        x.day(1);
        isPlaced(x, OUT, SHELF, OUT);
        Check.same("none", x.place(0, 8), 0);
        Check.same("in no bag", x.place(1, 1), -1);
        Check.same("in no bag", x.place(2, 1), -1);
    }

    private static void p31_claimsOnItThatStand() {
        FoundOffice x = Make.withTables(2);
        Make.things(x, 2, KEY);
        Make.reports(x, 60);
        x.mark(false, 0, 0, 1);
        for (int r = 0; r < 60; r++) {
            Check.same("so far", x.place(0, 9), r);
            x.claim(r, 0);
        }
        x.prove(0, 0, 1);
        Check.same("a proved one stands", x.place(0, 9), 60);
        x.prove(1, 0, 0);
        Check.same("a refused one doesn't", x.place(0, 9), 59);
        x.withdraw(2);
        Check.same("a withdrawn one doesn't", x.place(0, 9), 58);
        x.close(3);
        Check.same("a closed report's doesn't", x.place(0, 9), 57);
        Check.same("on the other one", x.place(1, 9), 0);
        x.give(0);
        Check.same("out", x.place(0, 9), 0);
    }

    private static void p31_anotherWhat() {
        FoundOffice x = with(2, KEY);
        int[] wrong = {-1, 10, 11, 64, Make.MIN, Make.MAX};
        for (int what : wrong) {
            Check.placeThrows("what " + what, x, 1, what);
        }
        Check.same("the last what", x.place(1, 9), 0);
    }

    private static void p31_noSuchThing() {
        FoundOffice x = with(2, KEY);
        for (int what = 0; what < 10; what++) {
            for (int t : FAR) {
                Check.placeThrows("thing " + t, x, t, what);
            }
            Check.placeThrows("thing 2", x, 2, what);
            Check.placeThrows("on a new object", new FoundOffice(), 0, what);
        }
        Check.same("the last one", x.place(1, 3), KEY);
        Check.same("of a full one", Make.filled().place(59, 3), KEY);
        Check.placeThrows("of a full one", Make.filled(), 60, 3);
    }

    private static void p31_aRefusedOneChangesNothing() {
        Twins.isThrown("no thing", Make::some, x -> x.place(7, 0));
        Twins.isThrown("another what", Make::some, x -> x.place(0, 10));
    }

    /** What is on the shelf by itself goes out on just that day. */
    private static void staysFor(int kind, int days, FoundOffice x) {
        int t = x.thing(kind, 0, false, -1);
        for (int left = days - 1; left > 0; left -= 100) {
            Check.same("kind " + kind + " is here", x.day(Math.min(left, 100)), 0);
        }
        Check.same("its age", x.place(t, 2), days - 1);
        Check.same("kind " + kind + " goes", x.day(1), 1);
        Check.same("its age", x.place(t, 2), days);
    }

    private static void p32_atFirst() {
        int[] days = {30, 30, 10, 60, 1, 10};
        for (int kind = 0; kind < 6; kind++) {
            staysFor(kind, days[kind], new FoundOffice());
        }
    }

    private static void p32_kindsAre0To5() {
        FoundOffice x = new FoundOffice();
        int[] wrong = {-1, 6, 64, Make.MIN, Make.MAX};
        for (int kind : wrong) {
            Check.no("kind " + kind, x.days(kind, 1));
        }
        for (int kind = 0; kind < 6; kind++) {
            Check.yes("kind " + kind, x.days(kind, 2 + kind));
        }
        for (int kind = 0; kind < 6; kind++) {
            staysFor(kind, 2 + kind, x);
        }
    }

    private static void p32_daysAre1To1000() {
        FoundOffice x = new FoundOffice();
        int[] wrong = {0, -1, 1001, 65537, Make.MIN, Make.MAX};
        for (int n : wrong) {
            for (int kind = 0; kind < 6; kind++) {
                Check.no("n " + n, x.days(kind, n));
            }
        }
        for (int kind = 0; kind < 6; kind++) {
            Check.yes("least", x.days(kind, 1));
            staysFor(kind, 1, x);
            Check.yes("most", x.days(kind, 1000));
            staysFor(kind, 1000, x);
        }
    }

    private static void p32_thatKindAlone() {
        FoundOffice x = new FoundOffice();
        for (int kind = 0; kind < 6; kind++) {
            x.thing(kind, 0, false, -1);
        }
        x.days(WORTH, 1);
        x.days(PERISH, 2);
        Check.same("the worth", x.day(1), 1);
        Check.same("the perish", x.day(1), 1);
        isGone(x, 3, 4);
    }

    private static void p32_aRefusedOneChangesNothing() {
        Twins.isFalse("no days", Make::some, x -> x.days(PLAIN, 0));
        Twins.isFalse("too many", Make::some, x -> x.days(PERISH, 1001));
        Twins.isFalse("kind 6", Make::some, x -> x.days(6, 1));
        Twins.isFalse("kind -1", Make::some, x -> x.days(-1, 1));
    }

    private static void p33_noneToAHundred() {
        FoundOffice x = with(1, WORTH);
        int[] wrong = {-1, -2, 101, 256, Make.MIN, Make.MAX};
        for (int n : wrong) {
            Check.same("n " + n, x.day(n), -1);
        }
        Check.same("no day came", x.count(0), 0);
        Check.same("none", x.day(0), 0);
        Check.same("no day came", x.count(0), 0);
        Check.same("its age", x.place(0, 2), 0);
        Check.same("a hundred", x.day(100), 1);
        Check.same("they came", x.count(0), 100);
        Check.same("on a new object", new FoundOffice().day(100), 0);
    }

    private static void p33_aRefusedOneChangesNothing() {
        Twins.refused("-1", Make::some, -1, x -> x.day(-1));
        Twins.refused("101", Make::some, -1, x -> x.day(101));
        Twins.refused("none come", Make::some, 0, x -> x.day(0));
    }

    private static void p33_oneByOne() {
        FoundOffice x = new FoundOffice();
        x.thing(KEY, 0, false, -1);
        x.thing(PERISH, 0, false, -1);
        x.thing(PAPER, 0, false, -1);
        x.days(PAPER, 4);
        x.day(2);
        x.thing(PERISH, 0, false, -1);
        Check.same("three", x.day(8), 3);
        isOut(x, 1, 0, 1, 3);
        isOut(x, 3, 0, 3, 3);
        isOut(x, 2, 0, 4, 4);
        isOut(x, 0, 0, 10, 4);
        isGone(x, 1, 3, 2, 0);
    }

    private static void p33_byNumbers() {
        FoundOffice x = new FoundOffice();
        x.thing(KEY, 0, false, -1);
        x.thing(PERISH, 0, false, -1);
        x.thing(KEY, 0, false, -1);
        x.days(KEY, 1);
        Check.same("all on one day", x.day(1), 3);
        isGone(x, 0, 1, 2);
    }

    private static void p33_asOldAsItsKindsDays() {
        FoundOffice x = with(1, KEY);
        Check.same("one day less", x.day(9), 0);
        Check.same("its age", x.place(0, 2), 9);
        Check.same("as old", x.day(1), 1);
        Check.same("its age", x.place(0, 2), 10);
    }

    private static void p33_olderThanItsKindsDays() {
        FoundOffice x = with(1, PLAIN);
        x.day(20);
        x.days(PLAIN, 5);
        isPlaced(x, SHELF);
        Check.same("older", x.day(1), 1);
        Check.same("its age", x.place(0, 2), 21);
    }

    private static void p33_thoseThatAreInsideDoNotAge() {
        FoundOffice x = with(1, BAG);
        x.thing(PERISH, 0, false, 0);
        Check.same("inside", x.day(5), 0);
        Check.same("its age", x.place(1, 2), 0);
        Check.same("the bag's age", x.place(0, 2), 5);
        x.into(1, -1);
        Check.same("on the shelf", x.day(1), 1);
        Check.same("its age", x.place(1, 2), 1);
    }

    private static void p33_agesStayWhileInside() {
        FoundOffice x = with(1, BAG);
        x.thing(KEY, 0, false, -1);
        x.day(9);
        x.into(1, 0);
        x.day(5);
        x.into(1, -1);
        Check.same("as old as before", x.place(1, 2), 9);
        Check.same("the tenth", x.day(1), 1);
    }

    private static void p33_thoseOnWhichAClaimStandsDoNotAge() {
        FoundOffice x = Make.withTables(2);
        Make.things(x, 3, KEY);
        Make.reports(x, 2);
        x.mark(false, 0, 0, 1);
        x.claim(0, 0);
        x.prove(0, 0, 1);
        x.claim(0, 1);
        x.claim(1, 1);
        Check.same("the one without", x.day(10), 1);
        isGone(x, 2);
        Check.same("a proved one's age", x.place(0, 2), 0);
        x.withdraw(1);
        x.day(3);
        Check.same("another one still stands", x.place(1, 2), 0);
        x.withdraw(2);
        x.prove(0, 0, 0);
        Check.same("none stands", x.day(9), 0);
        Check.same("none stands", x.day(1), 2);
    }

    private static void p33_thoseThatAreOutDoNotAge() {
        FoundOffice x = with(1, PERISH);
        x.day(1);
        Check.same("no more", x.day(50), 0);
        Check.same("its age", x.place(0, 2), 1);
        isOut(x, 0, 0, 1, 3);
    }

    private static void p33_aFinderWhoWantsIt() {
        for (int kind = 0; kind < 6; kind++) {
            FoundOffice x = new FoundOffice();
            x.days(kind, 1);
            int away = kind == PERISH ? 3 : 4;
            x.thing(kind, 1, true, -1);
            x.thing(kind, 999, true, -1);
            x.thing(kind, 1, false, -1);
            x.thing(kind, 999, false, -1);
            x.thing(kind, 0, true, -1);
            x.thing(kind, 0, false, -1);
            Check.same("six", x.day(1), 6);
            isOut(x, 0, 1, 1, 2);
            isOut(x, 1, 999, 1, 2);
            for (int t = 2; t < 6; t++) {
                isOut(x, t, 0, 1, away);
            }
        }
    }

    private static void p33_whatIsInsideGoesLikewise() {
        FoundOffice x = new FoundOffice();
        x.thing(KEY, 8, true, -1);
        x.thing(PERISH, 8, true, -1);
        x.thing(BAG, 7, true, -1);
        x.thing(BAG, 0, false, -1);
        x.into(1, 2);
        x.into(0, 3);
        x.days(BAG, 1);
        Check.same("two bags, two inside", x.day(1), 4);
        isGone(x, 2, 1, 3, 0);
        isOut(x, 2, 7, 1, 2);
        isOut(x, 1, 7, 1, 2);
        isOut(x, 3, 0, 1, 4);
        isOut(x, 0, 0, 1, 4);
    }

    private static void p33_claimedOnesInsideComeToTheShelf() {
        FoundOffice x = new FoundOffice();
        x.thing(BAG, 7, true, -1);
        x.thing(PERISH, 0, false, 0);
        x.thing(BAG, 0, false, 0);
        x.thing(KEY, 0, false, 2);
        x.report(1);
        x.claim(0, 1);
        x.claim(0, 2);
        x.days(BAG, 1);
        Check.same("the bag alone", x.day(1), 1);
        isPlaced(x, OUT, SHELF, SHELF, INSIDE);
        Check.same("their claims stand", x.count(6), 2);
        Check.same("no age yet", x.place(1, 2) + x.place(2, 2), 0);
        Check.same("nor on the next day", x.day(1), 0);
        x.close(0);
        Check.same("till none stands", x.day(1), 3);
    }

    private static void p33_aLesserNumberThatCameToTheShelf() {
        FoundOffice x = with(1, KEY);
        Make.things(x, 1, BAG);
        x.into(0, 1);
        x.report(1);
        x.claim(0, 0);
        x.days(BAG, 1);
        Check.same("the bag", x.day(1), 1);
        isPlaced(x, SHELF, OUT);
        Check.same("its age", x.place(0, 2), 0);
    }

    private static void p33_howManyWentOutInThem() {
        FoundOffice x = with(59, PERISH);
        x.thing(KEY, 0, false, -1);
        Check.same("fifty-nine", x.day(1), 59);
        Check.same("one", x.day(100), 1);
        Check.same("none", x.day(100), 0);
        FoundOffice y = with(60, PERISH);
        Check.same("sixty", y.day(100), 60);
    }

    private static void p33_onAFullObject() {
        FoundOffice x = Make.filled();
        Check.same("ten perish", x.day(1), 10);
        Check.same("the last of them", x.gone(9), 58);
        Check.same("all but two on which claims stand", x.day(100), 48);
        Check.same("one of them", x.place(0, 0), SHELF);
        Check.same("the other one", x.place(1, 0), SHELF);
    }

    private static void p33_manyDays() {
        FoundOffice x = with(1, PLAIN);
        x.days(PLAIN, 1000);
        x.report(1);
        x.claim(0, 0);
        for (int i = 0; i < 400; i++) {
            x.day(100);
        }
        Check.same("the day", x.count(0), 40000);
        Check.same("its age", x.place(0, 2), 0);
        x.close(0);
        for (int i = 0; i < 9; i++) {
            Check.same("not yet", x.day(100), 0);
        }
        Check.same("in the last hundred", x.day(100), 1);
        isOut(x, 0, 0, 41000, 4);
    }

    private static void p34_whatIs0To13() {
        FoundOffice x = with(2, KEY);
        int[] wrong = {-1, 14, 15, 64, Make.MIN, Make.MAX};
        for (int what : wrong) {
            Check.same("what " + what, x.count(what), -1);
            Check.same("on a new object", new FoundOffice().count(what), -1);
            Check.same("on a full one", Make.filled().count(what), -1);
        }
        Check.same("the last what", x.count(13), 0);
    }

    private static void p34_aRefusedOneChangesNothing() {
        Twins.refused("another what", Make::some, -1, x -> x.count(14));
    }

    private static void p34_onANewObjectAndAFullOne() {
        FoundOffice x = Make.filled();
        int[] due = {0, 16, 60, 60, 60, 100, 100, 60, 0, 0, 0, 0, 0, 0};
        for (int what = 0; what < due.length; what++) {
            Check.same("what " + what, x.count(what), due[what]);
            Check.same("new, what " + what, new FoundOffice().count(what), 0);
        }
    }

    private static void p34_openOnesAndThoseThatStand() {
        FoundOffice x = Make.withTables(2);
        Make.things(x, 2, KEY);
        Make.reports(x, 4);
        x.mark(false, 0, 0, 1);
        for (int r = 0; r < 4; r++) {
            x.claim(r, 0);
        }
        x.prove(0, 0, 1);
        Check.same("a proved one stands", x.count(6), 4);
        x.close(3);
        Check.same("closed", x.count(4), 3);
        Check.same("withdrawn", x.count(6), 3);
        x.prove(1, 0, 0);
        Check.same("refused", x.count(6), 2);
        Check.same("its report is open", x.count(4), 3);
        x.give(0);
        Check.same("given", x.count(4), 2);
        Check.same("given and lost", x.count(6), 0);
        Check.same("all claims", x.count(5), 4);
        Check.same("all reports", x.count(3), 4);
    }

    private static void p34_shelfInsideAndOut() {
        FoundOffice x = with(3, BAG);
        x.into(1, 0);
        x.into(2, 1);
        x.thing(PERISH, 0, false, -1);
        x.thing(KEY, 0, false, 2);
        int[] first = {5, 2, 3, 0};
        for (int i = 0; i < 4; i++) {
            Check.same("at first " + i, x.count(i == 0 ? 2 : 6 + i), first[i]);
        }
        x.day(1);
        int[] then = {5, 1, 3, 1};
        for (int i = 0; i < 4; i++) {
            Check.same("then " + i, x.count(i == 0 ? 2 : 6 + i), then[i]);
        }
    }

    private static void p34_eachWhy() {
        FoundOffice x = Make.withTables(2);
        x.report(1);
        x.thing(PLAIN, 0, false, -1);
        x.mark(false, 0, 0, 1);
        Make.things(x, 2, PERISH);
        Make.things(x, 3, KEY);
        for (int t = 0; t < 4; t++) {
            x.thing(KEY, 5, true, -1);
        }
        x.claim(0, 0);
        x.prove(0, 0, 1);
        x.give(0);
        x.day(10);
        int[] due = {10, 1, 4, 2, 3};
        for (int i = 0; i < due.length; i++) {
            Check.same("what " + (9 + i), x.count(9 + i), due[i]);
        }
    }

    private static void p35_fromTheFirstToTheLast() {
        FoundOffice x = with(3, PERISH);
        Check.same("none yet", x.gone(0), -1);
        x.into(0, -1);
        x.day(1);
        int[] wrong = {-1, -2, 3, 60, 64, Make.MIN, Make.MAX};
        for (int k : wrong) {
            Check.same("k " + k, x.gone(k), -1);
        }
        isGone(x, 0, 1, 2);
        Check.same("on a new object", new FoundOffice().gone(0), -1);
        Check.same("on a full one", Make.filled().gone(0), -1);
    }

    private static void p35_aRefusedOneChangesNothing() {
        Twins.refused("no more", Make::some, -1, x -> x.gone(1));
        Twins.refused("k -1", Make::some, -1, x -> x.gone(-1));
    }

    private static void p35_inTheirOrder() {
        FoundOffice x = new FoundOffice();
        x.thing(KEY, 0, false, -1);
        x.thing(PAPER, 0, false, -1);
        x.thing(PERISH, 0, false, -1);
        x.thing(BAG, 0, false, -1);
        x.into(0, 3);
        x.days(BAG, 5);
        x.day(10);
        isGone(x, 2, 3, 0, 1);
    }

    private static void p35_sixty() {
        FoundOffice x = with(60, PERISH);
        x.into(59, -1);
        x.day(1);
        for (int k = 0; k < 60; k++) {
            Check.same("k " + k, x.gone(k), k);
        }
        Check.same("k 60", x.gone(60), -1);
        x.day(100);
        Check.same("nothing goes out twice", x.count(9), 60);
        Check.same("the first", x.gone(0), 0);
    }
}
