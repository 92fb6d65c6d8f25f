/** Promises 5 to 10, things, reports and their rows: each sentence that names a boundary, by itself. */
public final class RowEdgesTest {
    private static final int MAX = Make.MAX;
    private static final int MIN = Make.MIN;
    private static final int PLAIN = Make.PLAIN;
    private static final int BAG = Make.BAG;
    private static final int PERISH = Make.PERISH;
    private static final int KEY = Make.KEY;

    private RowEdgesTest() {
    }

    public static void main(String[] args) {
        Check.each(RowEdgesTest.class, 5, 6, 7, 8, 9, 10);
    }

    private static void p5_kindsAre0To5() {
        FoundOffice x = new FoundOffice();
        int[] wrong = {-1, 6, 256, MIN, MAX};
        for (int kind : wrong) {
            Check.same("kind " + kind, x.thing(kind, 0, false, -1), -1);
        }
        Check.same("none was made", x.count(2), 0);
        for (int kind = 0; kind < 6; kind++) {
            Check.same("kind " + kind, x.thing(kind, 0, false, -1), kind);
            Check.same("it is of that kind", x.place(kind, 3), kind);
        }
    }

    private static void p5_findersAre0To999() {
        FoundOffice x = new FoundOffice();
        int[] wrong = {-1, 1000, 1001, 65536, MIN, MAX};
        for (int finder : wrong) {
            Check.same("finder " + finder, x.thing(0, finder, true, -1), -1);
            Check.same("finder who does not want it " + finder, x.thing(0, finder, false, -1), -1);
        }
        Check.same("none was made", x.count(2), 0);
        Check.same("nobody", x.thing(0, 0, true, -1), 0);
        Check.same("the first", x.thing(0, 1, true, -1), 1);
        Check.same("the last", x.thing(0, 999, true, -1), 2);
        Check.same("nobody", x.place(0, 4), 0);
        Check.same("the first", x.place(1, 4), 1);
        Check.same("the last", x.place(2, 4), 999);
    }

    private static void p5_onTheShelfForNone() {
        FoundOffice x = new FoundOffice();
        x.thing(BAG, 0, false, -1);
        Check.same("on the shelf", x.thing(0, 0, false, FoundOffice.NONE), 1);
        Check.same("on the shelf", x.place(1, 0), 0);
        Check.same("in no bag", x.place(1, 1), -1);
    }

    private static void p5_insideABag() {
        FoundOffice x = new FoundOffice();
        x.thing(BAG, 0, false, -1);
        Check.same("bag 0", x.thing(0, 0, false, 0), 1);
        Check.same("inside", x.place(1, 0), 1);
        Check.same("its bag", x.place(1, 1), 0);
        Check.same("in it", x.place(0, 8), 1);
    }

    private static void p5_insideABagThatIsInside() {
        FoundOffice x = new FoundOffice();
        x.thing(BAG, 0, false, -1);
        Check.same("a bag in it", x.thing(BAG, 0, false, 0), 1);
        Check.same("a bag in that", x.thing(BAG, 0, false, 1), 2);
        Check.same("a thing in that", x.thing(KEY, 0, false, 2), 3);
        Check.same("inside are directly so", x.place(0, 8), 1);
        Check.same("its bag", x.place(3, 1), 2);
    }

    private static void p5_noBag() {
        FoundOffice x = new FoundOffice();
        for (int kind = 0; kind < 6; kind++) {
            x.thing(kind, 0, false, -1);
        }
        for (int bag = 0; bag < 6; bag++) {
            if (bag != BAG) {
                Check.same("of kind " + bag, x.thing(0, 0, false, bag), -1);
            }
        }
        Check.same("a bag", x.thing(0, 0, false, BAG), 6);
    }

    private static void p5_noSuchBag() {
        FoundOffice x = new FoundOffice();
        x.thing(BAG, 0, false, -1);
        int[] wrong = {-2, 1, 2, 60, 64, MIN, MAX};
        for (int bag : wrong) {
            Check.same("bag " + bag, x.thing(BAG, 0, false, bag), -1);
        }
        Check.same("one alone", x.count(2), 1);
    }

    private static void p5_aBagThatIsOut() {
        FoundOffice x = new FoundOffice();
        x.thing(BAG, 0, false, -1);
        x.days(BAG, 2);
        x.day(1);
        Check.same("not yet out", x.thing(KEY, 0, false, 0), 1);
        x.day(1);
        Check.same("out", x.thing(KEY, 0, false, 0), -1);
        Check.same("none was made", x.count(2), 2);
        Check.same("none is in it", x.place(0, 8), 0);
    }

    private static void p5_thereAreSixtyAtMost() {
        FoundOffice x = new FoundOffice();
        x.thing(BAG, 0, false, -1);
        for (int t = 1; t < 60; t++) {
            Check.same("number", x.thing(t % 6, t, true, t % 2 - 1), t);
        }
        Check.same("a sixty-first", x.thing(PLAIN, 0, false, -1), -1);
        Check.same("a sixty-first inside", x.thing(PLAIN, 0, false, 0), -1);
        Check.same("count", x.count(2), 60);
        Check.same("the last one is there", x.place(59, 4), 59);
        Check.placeThrows("none behind it", x, 60, 4);
        Check.same("those in the bag", x.place(0, 8), 30);
    }

    private static void p5_thoseThatAreOutAreOfTheSixty() {
        FoundOffice x = new FoundOffice();
        Make.things(x, 60, PERISH);
        x.day(1);
        Check.same("all are out", x.count(9), 60);
        Check.same("a sixty-first", x.thing(PLAIN, 0, false, -1), -1);
    }

    private static void p5_aNewOneIsNew() {
        FoundOffice x = new FoundOffice();
        x.thing(KEY, 0, false, -1);
        x.day(5);
        x.thing(KEY, 8, true, -1);
        int[] due = {0, -1, 0, KEY, 8, -1, -1, -1, 0, 0};
        for (int what = 0; what < due.length; what++) {
            Check.same("place " + what, x.place(1, what), due[what]);
        }
        Check.same("its row is missing", x.length(false, 1), -1);
    }

    private static void p5_aRefusedOneChangesNothing() {
        Twins.refused("a kind", Make::some, -1, x -> x.thing(6, 0, false, 0));
        Twins.refused("a finder", Make::some, -1, x -> x.thing(PLAIN, 1000, false, 0));
        Twins.refused("no bag", Make::some, -1, x -> x.thing(PLAIN, 0, false, 1));
        Twins.refused("itself", Make::some, -1, x -> x.thing(BAG, 0, false, 7));
        Twins.refused("one that is out", Make::some, -1, x -> x.thing(PLAIN, 0, false, 6));
        Twins.refused("a sixty-first", Make::full, -1, x -> x.thing(PLAIN, 0, false, 1));
    }

    private static void p6_personsAre1To999() {
        FoundOffice x = new FoundOffice();
        int[] wrong = {0, -1, 1000, 1001, 65537, MIN, MAX};
        for (int person : wrong) {
            Check.same("person " + person, x.report(person), -1);
        }
        Check.same("none was made", x.count(3), 0);
        Check.same("the first", x.report(1), 0);
        Check.same("the last", x.report(999), 1);
    }

    private static void p6_onePersonMayReportAgain() {
        FoundOffice x = new FoundOffice();
        Check.same("once", x.report(5), 0);
        Check.same("again", x.report(5), 1);
        Check.same("two", x.count(3), 2);
    }

    private static void p6_thereAreSixtyAtMost() {
        FoundOffice x = new FoundOffice();
        for (int r = 0; r < 60; r++) {
            Check.same("number", x.report(999), r);
        }
        Check.same("a sixty-first", x.report(1), -1);
        Check.same("count", x.count(3), 60);
        Check.same("the last one is there", x.fitting(59), 0);
        Check.same("none behind it", x.fitting(60), -1);
    }

    private static void p6_closedOnesAreOfTheSixty() {
        FoundOffice x = new FoundOffice();
        Make.reports(x, 60);
        x.close(0);
        x.close(59);
        Check.same("open ones", x.count(4), 58);
        Check.same("a sixty-first", x.report(1), -1);
    }

    private static void p6_aNewOneIsOpenAndHasNoRow() {
        FoundOffice x = new FoundOffice();
        x.report(1);
        x.close(0);
        x.report(1);
        Check.same("open", x.count(4), 1);
        Check.same("its group", x.group(1, 0), 1);
        Check.same("its row is missing", x.length(true, 1), -1);
    }

    private static void p6_aRefusedOneChangesNothing() {
        Twins.refused("nobody", Make::some, -1, x -> x.report(0));
        Twins.refused("too great", Make::some, -1, x -> x.report(1000));
        Twins.refused("a sixty-first", Make::full, -1, x -> x.report(7));
    }

    private static FoundOffice withBoth(int... tables) {
        FoundOffice x = Make.withTables(tables);
        Make.things(x, 2, PLAIN);
        Make.reports(x, 2);
        return x;
    }

    private static void p7_noSuchOne() {
        FoundOffice x = withBoth(3);
        int[] wrong = {-1, 2, 60, 64, MIN, MAX};
        for (int i : wrong) {
            Check.no("report " + i, x.mark(true, i, 0, 0));
            Check.no("thing " + i, x.mark(false, i, 0, 0));
            Check.no("nothing, report " + i, x.mark(true, i, 0, -1));
            Check.no("nothing, thing " + i, x.mark(false, i, 0, -1));
        }
        Check.yes("the last report", x.mark(true, 1, 0, 0));
        Check.yes("the last thing", x.mark(false, 1, 0, 0));
    }

    private static void p7_reportsAndThingsHaveNumbersOfTheirOwn() {
        FoundOffice x = Make.withTables(3);
        x.report(1);
        Check.no("no thing", x.mark(false, 0, 0, 0));
        x.report(1);
        x.thing(PLAIN, 0, false, -1);
        Check.yes("the report", x.mark(true, 0, 0, 1));
        Check.yes("the thing", x.mark(false, 0, 0, 2));
        Check.same("the report", x.known(true, 0, 0), 1);
        Check.same("the thing", x.known(false, 0, 0), 2);
        Check.no("there is one thing", x.mark(false, 1, 0, 0));
    }

    private static void p7_noSuchQuestion() {
        FoundOffice x = withBoth(3, 3);
        int[] wrong = {-1, 2, 15, 16, MIN, MAX};
        for (int q : wrong) {
            Check.no("question " + q, x.mark(false, 0, q, 0));
            Check.no("nothing, question " + q, x.mark(true, 0, q, -1));
        }
        Check.same("no row was made", x.length(false, 0), -1);
        Check.yes("the last question", x.mark(false, 0, 1, 0));
    }

    private static void p7_neitherAnAnswerNorNone() {
        FoundOffice x = withBoth(3, 40);
        x.question(Make.SIZE, 0, 1);
        x.question(Make.SPAN, 0, 1);
        int[][] wrong = {{-2, 3, MIN, MAX}, {-2, 40, 41}, {-2, 30001, MAX}, {-2, 10000, 100, 9998}};
        int[][] right = {{0, 2, -1}, {0, 39, -1}, {0, 30000, -1}, {0, 9999, 99, 101, -1}};
        for (int q = 0; q < 4; q++) {
            for (int a : wrong[q]) {
                Check.no("question " + q + " answer " + a, x.mark(false, 0, q, a));
            }
            for (int a : right[q]) {
                Check.yes("question " + q + " answer " + a, x.mark(false, 0, q, a));
                Check.same("it is known", x.known(false, 0, q), a);
            }
        }
    }

    private static void p7_theRowIsMadeAsLongAsThatTakes() {
        FoundOffice x = withBoth(3, 3, 3, 3);
        for (int q = 0; q < 4; q++) {
            x.mark(false, 0, q, 1);
            Check.same("one longer", x.length(false, 0), q + 1);
        }
        x.mark(false, 0, 0, 2);
        x.mark(false, 0, 3, 2);
        Check.same("never shorter, nor longer than that", x.length(false, 0), 4);
        x.mark(true, 0, 3, 1);
        Check.same("at once", x.length(true, 0), 4);
        x.mark(true, 1, 0, 1);
        Check.same("one place", x.length(true, 1), 1);
    }

    private static void p7_alsoForNothing() {
        FoundOffice x = withBoth(3, 3, 3);
        Check.yes("nothing", x.mark(true, 0, 1, -1));
        Check.same("as long as that takes", x.length(true, 0), 2);
        Check.yes("nothing again", x.mark(true, 0, 2, -1));
        Check.same("longer", x.length(true, 0), 3);
        Check.same("it knows nothing", x.known(true, 0, 1) + x.known(true, 0, 2), -2);
    }

    private static void p7_nothingAtNewPlaces() {
        FoundOffice x = withBoth(3, 3, 3, 3, 3);
        Make.row(x, false, 0, 2, 2, 2, 2, 2);
        x.tear(false, 0, 1);
        x.mark(false, 0, 3, 1);
        int[] due = {2, -1, -1, 1, -1};
        for (int q = 0; q < 5; q++) {
            Check.same("place " + q, x.known(false, 0, q), due[q]);
        }
        x.tear(false, 0, -1);
        x.mark(false, 0, 4, 0);
        for (int q = 0; q < 5; q++) {
            Check.same("after it was missing, place " + q, x.known(false, 0, q), q == 4 ? 0 : -1);
        }
    }

    private static void p7_anAnswerIsPutInTheOthersPlace() {
        FoundOffice x = withBoth(3, 3);
        Make.row(x, false, 0, 1, 1);
        x.mark(false, 0, 0, 2);
        Check.same("the new one", x.known(false, 0, 0), 2);
        x.mark(false, 0, 0, -1);
        Check.same("nothing", x.known(false, 0, 0), -1);
        Check.same("the other place stays", x.known(false, 0, 1), 1);
        Check.same("no shorter", x.length(false, 0), 2);
    }

    private static void p7_rowsAreApart() {
        FoundOffice x = new FoundOffice();
        for (int q = 0; q < 16; q++) {
            x.question(Make.SIZE, 0, 1);
        }
        Make.things(x, 3, PLAIN);
        x.mark(false, 1, 0, 7);
        x.mark(false, 1, 15, 8);
        x.mark(false, 0, 15, 5);
        x.mark(false, 2, 0, 6);
        Check.same("its first place", x.known(false, 1, 0), 7);
        Check.same("its last place", x.known(false, 1, 15), 8);
        Check.same("the one before", x.known(false, 0, 15), 5);
        Check.same("the one behind", x.known(false, 2, 0), 6);
    }

    private static void p7_theLastOfAll() {
        FoundOffice x = Make.filled();
        Check.yes("thing 59, question 15", x.mark(false, 59, 15, 39));
        Check.yes("report 59, question 15", x.mark(true, 59, 15, 38));
        Check.same("thing", x.known(false, 59, 15), 39);
        Check.same("report", x.known(true, 59, 15), 38);
        Check.same("sixteen places", x.length(false, 59), 16);
        Check.no("question 16", x.mark(false, 59, 16, 0));
        Check.no("thing 60", x.mark(false, 60, 15, 0));
        Check.no("report 60", x.mark(true, 60, 15, 0));
    }

    private static void p7_onANewObject() {
        FoundOffice x = new FoundOffice();
        Check.no("no thing", x.mark(false, 0, 0, -1));
        Check.no("no report", x.mark(true, 0, 0, -1));
        Make.things(x, 1, PLAIN);
        Make.reports(x, 1);
        Check.no("a thing, no question", x.mark(false, 0, 0, 0));
        Check.no("a report, no question", x.mark(true, 0, 0, -1));
        Check.same("no row was made", x.length(false, 0) + x.length(true, 0), -2);
    }

    private static void p7_alsoOut() {
        FoundOffice x = Make.withTables(3);
        x.thing(PERISH, 0, false, -1);
        x.day(1);
        Check.yes("out", x.mark(false, 0, 0, 1));
        Check.same("known", x.known(false, 0, 0), 1);
    }

    private static void p7_alsoClosed() {
        FoundOffice x = withBoth(3);
        x.close(0);
        Check.yes("closed", x.mark(true, 0, 0, 1));
        Check.same("known", x.known(true, 0, 0), 1);
    }

    private static void p7_aRefusedOneChangesNothing() {
        Twins.isFalse("no thing", Make::some, x -> x.mark(false, 7, 0, 0));
        Twins.isFalse("no report", Make::some, x -> x.mark(true, 4, 0, 0));
        Twins.isFalse("no question", Make::some, x -> x.mark(false, 0, 4, 0));
        Twins.isFalse("nothing to no question", Make::some, x -> x.mark(false, 1, -1, -1));
        Twins.isFalse("no answer in a missing row", Make::some, x -> x.mark(false, 0, 0, 3));
        Twins.isFalse("no answer at a new place", Make::some, x -> x.mark(true, 0, 3, 40));
        Twins.isFalse("no answer in an answer's place", Make::some, x -> x.mark(false, 1, 0, -2));
    }

    private static void p8_itsFirstPlacesAlone() {
        FoundOffice x = withBoth(3, 3, 3);
        Make.row(x, false, 0, 1, 2, 1);
        Check.yes("two", x.tear(false, 0, 2));
        Check.same("length", x.length(false, 0), 2);
        Check.same("the last of them", x.known(false, 0, 1), 2);
        Check.same("the one behind", x.known(false, 0, 2), -1);
    }

    private static void p8_asManyAsThereAre() {
        FoundOffice x = withBoth(3, 3, 3);
        Make.row(x, false, 0, 1, 2, 1);
        Check.no("one more", x.tear(false, 0, 4));
        Check.no("far more", x.tear(false, 0, MAX));
        Check.yes("as many", x.tear(false, 0, 3));
        Check.same("all stay", x.length(false, 0), 3);
        Check.same("the last one, too", x.known(false, 0, 2), 1);
    }

    private static void p8_fewerPlacesThanN() {
        FoundOffice x = withBoth(3, 3);
        Make.row(x, true, 1, 1, 1);
        x.tear(true, 1, 1);
        Check.no("not what was torn", x.tear(true, 1, 2));
        x.tear(true, 1, 0);
        Check.no("one of none", x.tear(true, 1, 1));
        Check.yes("none of none", x.tear(true, 1, 0));
    }

    private static void p8_sixteenPlaces() {
        FoundOffice x = Make.filled();
        x.mark(false, 59, 15, 1);
        Check.no("seventeen", x.tear(false, 59, 17));
        Check.yes("sixteen", x.tear(false, 59, 16));
        Check.same("sixteen", x.length(false, 59), 16);
        Check.yes("fifteen", x.tear(false, 59, 15));
        Check.same("the last one is gone", x.known(false, 59, 15), -1);
        Check.no("sixteen are no more there", x.tear(false, 59, 16));
    }

    private static void p8_noPlaces() {
        FoundOffice x = withBoth(3);
        x.mark(false, 0, 0, 1);
        Check.yes("none", x.tear(false, 0, 0));
        Check.same("it is not missing", x.length(false, 0), 0);
        Check.same("it knows nothing", x.known(false, 0, 0), -1);
    }

    private static void p8_noneMakesItMissing() {
        FoundOffice x = withBoth(3);
        x.mark(false, 0, 0, 1);
        Check.yes("missing", x.tear(false, 0, FoundOffice.NONE));
        Check.same("missing", x.length(false, 0), -1);
        Check.same("it knows nothing", x.known(false, 0, 0), -1);
        x.mark(true, 0, 0, -1);
        x.tear(true, 0, 0);
        Check.yes("one of no places", x.tear(true, 0, -1));
        Check.same("missing", x.length(true, 0), -1);
    }

    private static void p8_belowNone() {
        FoundOffice x = withBoth(3);
        x.mark(false, 0, 0, 1);
        Check.no("-2", x.tear(false, 0, -2));
        Check.no("the least", x.tear(false, 0, MIN));
        Check.same("it stays", x.known(false, 0, 0), 1);
    }

    private static void p8_missingAlready() {
        FoundOffice x = withBoth(3);
        int[] n = {-2, -1, 0, 1};
        for (int i : n) {
            Check.no("at first, n " + i, x.tear(false, 0, i));
        }
        x.mark(false, 0, 0, 1);
        x.tear(false, 0, -1);
        for (int i : n) {
            Check.no("torn, n " + i, x.tear(false, 0, i));
        }
        Check.same("missing", x.length(false, 0), -1);
    }

    private static void p8_noSuchOne() {
        FoundOffice x = withBoth(3);
        x.mark(false, 1, 0, 1);
        x.mark(true, 1, 0, 1);
        int[] wrong = {-1, 2, 60, MIN, MAX};
        for (int i : wrong) {
            for (int n = -1; n <= 1; n++) {
                Check.no("thing " + i, x.tear(false, i, n));
                Check.no("report " + i, x.tear(true, i, n));
            }
        }
        Check.yes("the last thing", x.tear(false, 1, 0));
        Check.same("the report stays", x.length(true, 1), 1);
        Check.yes("the last report", x.tear(true, 1, 0));
    }

    private static void p8_onANewObject() {
        FoundOffice x = new FoundOffice();
        for (int n = -1; n <= 1; n++) {
            Check.no("no thing", x.tear(false, 0, n));
            Check.no("no report", x.tear(true, 0, n));
        }
    }

    private static void p8_alsoOutAlsoClosed() {
        FoundOffice x = Make.withTables(3);
        x.thing(PERISH, 0, false, -1);
        x.report(1);
        x.mark(false, 0, 0, 1);
        x.mark(true, 0, 0, 1);
        x.day(1);
        x.close(0);
        Check.yes("out", x.tear(false, 0, 0));
        Check.yes("closed", x.tear(true, 0, 0));
    }

    private static void p8_aRefusedOneChangesNothing() {
        Twins.isFalse("more places", Make::some, x -> x.tear(false, 1, 4));
        Twins.isFalse("below none", Make::some, x -> x.tear(false, 1, -2));
        Twins.isFalse("missing", Make::some, x -> x.tear(false, 0, 0));
        Twins.isFalse("missing, none", Make::some, x -> x.tear(true, 2, -1));
        Twins.isFalse("no such thing", Make::some, x -> x.tear(false, 7, -1));
        Twins.isFalse("no such report", Make::some, x -> x.tear(true, 4, -1));
    }

    private static void p9_longerThanQ() {
        FoundOffice x = withBoth(3, 3, 3);
        Make.row(x, false, 0, 2, 1, 2);
        x.tear(false, 0, 2);
        Check.same("one longer", x.known(false, 0, 1), 1);
        Check.same("just as long", x.known(false, 0, 2), -1);
        x.tear(false, 0, 0);
        Check.same("of no places", x.known(false, 0, 0), -1);
    }

    private static void p9_anAnswerThere() {
        FoundOffice x = withBoth(3, 3);
        Make.row(x, false, 0, -1, 0);
        Check.same("nothing there", x.known(false, 0, 0), -1);
        Check.same("the answer 0", x.known(false, 0, 1), 0);
        Check.same("missing", x.known(false, 1, 0), -1);
    }

    private static void p9_noSuchOnes() {
        FoundOffice x = withBoth(3, 3);
        for (int i = 0; i < 2; i++) {
            Make.row(x, false, i, 1, 2);
            Make.row(x, true, i, 1, 2);
        }
        int[] wrong = {-1, 2, 16, 60, 64, MIN, MAX};
        for (int i : wrong) {
            Check.same("thing " + i, x.known(false, i, 0), -1);
            Check.same("report " + i, x.known(true, i, 0), -1);
            Check.same("thing's question " + i, x.known(false, 0, i), -1);
            Check.same("report's question " + i, x.known(true, 0, i), -1);
        }
        Check.same("the last thing", x.known(false, 1, 1), 2);
        Check.same("the last report", x.known(true, 1, 1), 2);
    }

    private static void p9_onANewObjectAndAFullOne() {
        Check.same("new", new FoundOffice().known(true, 0, 0), -1);
        FoundOffice x = Make.filled();
        Check.same("nothing yet", x.known(false, 59, 15), -1);
        x.mark(false, 59, 15, 7);
        Check.same("the last place", x.known(false, 59, 15), 7);
        Check.same("none behind it", x.known(false, 59, 16), -1);
        Check.same("no such thing", x.known(false, 60, 15), -1);
        Check.same("no such report", x.known(true, 60, 15), -1);
    }

    private static void p9_aRefusedOneChangesNothing() {
        Twins.refused("missing", Make::some, -1, x -> x.known(false, 0, 3));
        Twins.refused("nothing there", Make::some, -1, x -> x.known(true, 1, 0));
        Twins.refused("no question", Make::some, -1, x -> x.known(false, 1, 15));
        Twins.refused("no thing", Make::some, -1, x -> x.known(false, 59, 0));
    }

    private static void p10_missing() {
        FoundOffice x = withBoth(3);
        Check.same("at first, a thing", x.length(false, 0), -1);
        Check.same("at first, a report", x.length(true, 0), -1);
        x.mark(true, 0, 0, 1);
        x.tear(true, 0, -1);
        Check.same("torn", x.length(true, 0), -1);
    }

    private static void p10_noneToSixteen() {
        FoundOffice x = new FoundOffice();
        x.thing(PLAIN, 0, false, -1);
        x.report(1);
        for (int q = 0; q < 16; q++) {
            x.question(Make.SPAN, 0, 1);
            x.mark(q % 2 == 0, 0, q, 0);
            Check.same("after question " + q, x.length(q % 2 == 0, 0), q + 1);
        }
        x.tear(false, 0, 0);
        Check.same("no places", x.length(false, 0), 0);
        Check.same("the other one stays", x.length(true, 0), 15);
    }

    private static void p10_noSuchOne() {
        FoundOffice x = withBoth(3);
        int[] wrong = {-1, 2, 60, 64, MIN, MAX};
        Make.row(x, false, 1, 1);
        Make.row(x, true, 1, 1);
        for (int i : wrong) {
            Check.same("thing " + i, x.length(false, i), -1);
            Check.same("report " + i, x.length(true, i), -1);
        }
        Check.same("the last thing", x.length(false, 1), 1);
        Check.same("the last report", x.length(true, 1), 1);
    }

    private static void p10_aRefusedOneChangesNothing() {
        Twins.refused("missing", Make::some, -1, x -> x.length(false, 0));
        Twins.refused("no thing", Make::some, -1, x -> x.length(false, 7));
        Twins.refused("no report", Make::some, -1, x -> x.length(true, 4));
    }

    private static void p10_onAFullObject() {
        FoundOffice x = Make.filled();
        x.mark(true, 59, 3, -1);
        Check.same("the last report", x.length(true, 59), 4);
        Check.same("the last thing", x.length(false, 59), -1);
        Check.same("none behind it", x.length(true, 60), -1);
    }
}
