/** Offices as the tests need them. */
final class Make {
    static final int MAX = Integer.MAX_VALUE;
    static final int MIN = Integer.MIN_VALUE;
    static final int TABLE = 0;
    static final int SIZE = 1;
    static final int SPAN = 2;
    static final int PLAIN = 0;
    static final int BAG = 1;
    static final int PAPER = 2;
    static final int WORTH = 3;
    static final int PERISH = 4;
    static final int KEY = 5;

    private Make() {
    }

    /** A table for each count of answers, all of weight 1. */
    static FoundOffice withTables(int... counts) {
        FoundOffice x = new FoundOffice();
        tables(x, counts);
        return x;
    }

    static void tables(FoundOffice x, int... counts) {
        for (int count : counts) {
            Check.yes("a table", x.question(TABLE, count, 1) >= 0);
        }
    }

    static void things(FoundOffice x, int n, int kind) {
        for (int i = 0; i < n; i++) {
            x.thing(kind, 0, false, -1);
        }
    }

    /** Of the persons 101, 102, and so on. */
    static void reports(FoundOffice x, int n) {
        for (int i = 0; i < n; i++) {
            x.report(101 + i);
        }
    }

    /** A row of answers, all made new; -1 for nothing. */
    static void row(FoundOffice x, boolean report, int of, int... answers) {
        x.tear(report, of, -1);
        for (int q = 0; q < answers.length; q++) {
            Check.yes("mark", x.mark(report, of, q, answers[q]));
        }
    }

    /** As full as an office can be, by 236 calls: all fits all, and all things are on the shelf. */
    static void full(FoundOffice x) {
        for (int q = 0; q < 16; q++) {
            x.question(q % 3, q % 3 == TABLE ? 40 : 0, 1);
        }
        for (int i = 0; i < 60; i++) {
            x.thing(i % 6, 0, false, -1);
            x.report(101 + i);
        }
        for (int c = 0; c < 100; c++) {
            x.claim(c % 60, c / 60);
        }
    }

    static FoundOffice filled() {
        FoundOffice x = new FoundOffice();
        full(x);
        return x;
    }

    /** Some of everything: 4 questions, 7 things (6 is out), 4 reports (3 is closed), 4 claims. */
    static void some(FoundOffice x) {
        x.question(TABLE, 3, 10);
        x.question(SIZE, 1, 5);
        x.question(SPAN, 0, 7);
        x.question(TABLE, 40, 100);
        x.may(0, 0, 1, true);
        x.thing(BAG, 0, false, -1);
        x.thing(KEY, 17, true, 0);
        x.thing(BAG, 3, false, 0);
        x.thing(PAPER, 4, false, 2);
        x.thing(WORTH, 0, false, -1);
        x.thing(PLAIN, 5, true, -1);
        x.thing(PERISH, 0, false, -1);
        reports(x, 4);
        x.day(1);
        row(x, false, 1, 1, 100, 1020);
        row(x, false, 4, 0, -1, -1, 39);
        row(x, false, 5, 2);
        row(x, true, 0, 1, 105);
        row(x, true, 1, -1, -1, 2025);
        x.claim(0, 1);
        x.claim(1, 4);
        x.claim(2, 4);
        x.claim(2, 5);
        x.prove(1, 3, 39);
        x.withdraw(3);
        x.close(3);
    }
}
