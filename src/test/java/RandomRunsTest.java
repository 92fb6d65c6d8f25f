import java.util.NoSuchElementException;
import java.util.Random;

/** Runs of 512 calls, drawn from fixed seeds, on FoundOffice and on the plain model beside each other. */
public final class RandomRunsTest {
    private static final int CALLS = 512;
    private static final int[] ODD = {-1, -2, -3, 16, 60, 61, 99, 100, 101, 999, 1000, 1001, 30000, 30001,
        64, 1 << 30, Integer.MAX_VALUE, Integer.MIN_VALUE, Integer.MIN_VALUE + 1};

    private final Random random;
    private final int style;
    private final FoundOffice office = new FoundOffice();
    private final NaiveOffice model = new NaiveOffice();
    private final String name;
    private String call = "";

    private RandomRunsTest(int style, long seed) {
        this.style = style;
        random = new Random(seed * 31 + style);
        name = "style " + style + " seed " + seed + " ";
    }

    public static void main(String[] args) {
        int seeds = args.length > 0 ? Integer.parseInt(args[0]) : 15;
        for (int style = 0; style < 6; style++) {
            for (long seed = 0; seed < seeds; seed++) {
                new RandomRunsTest(style, seed).run();
            }
        }
        Check.end("RandomRunsTest");
    }

    private void run() {
        for (int i = 0; i < CALLS; i++) {
            step(i);
            if (i % 128 == 127) {
                compareAll(i);
            }
        }
    }

    private int n(int bound) {
        return random.nextInt(bound);
    }

    private boolean odds(int percent) {
        return n(100) < percent;
    }

    private int some(int size) {
        return odds(2) ? ODD[n(ODD.length)] : n(Math.max(1, size + (odds(3) ? 1 : 0)));
    }

    private int aThing() {
        return some(model.things.size());
    }

    private int aReport() {
        return some(model.reports.size());
    }

    /** Mostly one that stands. */
    private int aClaim() {
        int c = some(model.claims.size());
        for (int i = 0; i < 9 && odds(95); i++) {
            if (c >= 0 && c < model.claims.size() && model.claims.get(c).stands()) {
                return c;
            }
            c = some(model.claims.size());
        }
        return c;
    }

    /** Mostly a question that the claim's thing knows and its report does not. */
    private int aQuestionOf(int c) {
        int q = aQuestion();
        if (c < 0 || c >= model.claims.size()) {
            return q;
        }
        for (int i = 0; i < 9 && odds(95); i++) {
            if (model.claims.get(c).t.knows(q) != null && model.claims.get(c).r.knows(q) == null) {
                return q;
            }
            q = aQuestion();
        }
        return q;
    }

    /** Mostly one that the report fits and that is not out. */
    private int aFit(int r) {
        int t = aThing();
        for (int i = 0; i < 9 && odds(95); i++) {
            if (model.fits(r, t) == 1 && !model.things.get(t).out) {
                return t;
            }
            t = aThing();
        }
        return t;
    }

    private int aQuestion() {
        return some(model.questions.size());
    }

    private int anAnswer(int q) {
        if (odds(3)) {
            return ODD[n(ODD.length)];
        }
        if (q < 0 || q >= model.questions.size()) {
            return n(5);
        }
        NaiveOffice.Question x = model.questions.get(q);
        if (x.sort == 0) {
            return style == 4 ? n(x.n) : n(Math.min(x.n + (odds(3) ? 1 : 0), 5));
        }
        if (x.sort == 1) {
            return odds(90) ? 100 + n(6) * 5 : n(30010);
        }
        int f = n(6);
        return odds(95) ? 100 * f + f + n(4) : n(10100);
    }

    private int aBag() {
        if (odds(10)) {
            return aThing();
        }
        for (int i = 0; i < 8; i++) {
            int t = n(Math.max(1, model.things.size()));
            if (t < model.things.size() && model.things.get(t).kind == 1 && !model.things.get(t).out) {
                return t;
            }
        }
        return -1;
    }

    private void is(String what, long got, long due) {
        call = what;
        Check.same(name + what, got, due);
    }

    private void is(String what, boolean got, boolean due) {
        is(what, got ? 1 : 0, due ? 1 : 0);
    }

    /** Shares of each run: making, telling, asking, claiming, bags and days, by style. */
    private void step(int i) {
        int[][] shares = {
            {20, 35, 25, 12, 8}, {14, 30, 10, 36, 10}, {20, 20, 10, 25, 25},
            {25, 45, 28, 1, 1}, {12, 60, 28, 0, 0}, {50, 20, 15, 10, 5}};
        if (i < 12 && odds(70)) {
            make();
            return;
        }
        int at = n(100);
        int kind = 0;
        while (kind < 4 && at >= shares[style][kind]) {
            at -= shares[style][kind];
            kind++;
        }
        switch (kind) {
            case 0: make(); break;
            case 1: tell(); break;
            case 2: look(i); break;
            case 3: claim(); break;
            default: move(); break;
        }
    }

    private void make() {
        int most = style == 3 ? 14 : style == 4 ? 12 : 60;
        int which = n(10);
        if (which < 2) {
            int sort = odds(80) ? (style == 4 ? 0 : n(3)) : some(4);
            int count = odds(95) ? (sort == 0 ? 2 + n(4) : sort == 1 ? n(11) : 0) : some(42);
            int weight = odds(95) ? 1 + n(style == 3 ? 3 : 100) : some(102);
            is("question", office.question(sort, count, weight), model.question(sort, count, weight));
        } else if (which < 6 && model.things.size() < most) {
            int kind = odds(60) ? n(6) : odds(80) ? 1 : some(7);
            int finder = odds(90) ? n(4) : some(1001);
            boolean wants = odds(50);
            int bag = odds(60) ? -1 : aBag();
            is("thing", office.thing(kind, finder, wants, bag), model.thing(kind, finder, wants, bag));
        } else if (model.count(4) < (style == 0 || style == 5 ? 60 : 9)) {
            int person = odds(95) ? 1 + n(999) : some(1001);
            is("report", office.report(person), model.report(person));
        }
    }

    private void tell() {
        int which = n(20);
        boolean report = odds(style == 3 ? 50 : 40);
        int x = report ? aReport() : aThing();
        int q = aQuestion();
        if (which == 0) {
            int n = odds(80) ? n(6) - 1 : some(18);
            is("tear", office.tear(report, x, n), model.tear(report, x, n));
        } else if (which < 3) {
            int a = anAnswer(q);
            int b = anAnswer(q);
            boolean is = odds(70);
            is("may", office.may(q, a, b, is), model.may(q, a, b, is));
        } else {
            int a = odds(8) ? -1 : anAnswer(q);
            is("mark", office.mark(report, x, q, a), model.mark(report, x, q, a));
        }
    }

    private void look(int i) {
        int r = aReport();
        int t = aThing();
        int q = aQuestion();
        switch (n(18)) {
            case 0: is("mays", office.mays(q, 1, 2), model.mays(q, 1, 2)); break;
            case 1: is("known", office.known(i % 2 == 0, r, q), model.known(i % 2 == 0, r, q)); break;
            case 2: is("fits", office.fits(r, t), model.fits(r, t)); break;
            case 3: is("tells", office.tells(r, t), model.tells(r, t)); break;
            case 4: is("strength", office.strength(r, t), model.strength(r, t)); break;
            case 5: is("fitting", office.fitting(r), model.fitting(r)); break;
            case 6: is("fit", office.fit(r, q), model.fit(r, q)); break;
            case 7: case 8: case 9: is("best " + r, office.best(r), model.best(r)); break;
            case 10: is("sum " + r, office.sum(r), model.sum(r)); break;
            case 11: is("also " + r, office.also(r), model.also(r)); break;
            case 12: is("group", office.group(r, i % 3), model.group(r, i % 3)); break;
            case 13: is("like", office.like(t, r), model.like(t, r)); break;
            case 14: is("parts", office.parts(r, q), model.parts(r, q)); break;
            case 15: is("ask", office.ask(r), model.ask(r)); break;
            default: is("fewest " + r, office.fewest(r), model.fewest(r)); break;
        }
    }

    private void claim() {
        int r = aReport();
        int c = aClaim();
        int q = aQuestionOf(c);
        int which = n(20);
        if (which < 8) {
            int t = aFit(r);
            is("claim", office.claim(r, t), model.claim(r, t));
        } else if (which < 14) {
            int a = anAnswer(q);
            if (odds(90) && c >= 0 && c < model.claims.size()) {
                a = model.known(false, model.claims.get(c).t.no, q);
            }
            is("prove", office.prove(c, q, a), model.prove(c, q, a));
        } else if (which < 18) {
            if (odds(70)) {
                for (int i = 0; i < model.claims.size(); i++) {
                    c = model.claims.get(i).how == 1 && odds(50) ? i : c;
                }
            }
            is("give " + c, office.give(c), model.give(c));
        } else if (which == 18) {
            is("withdraw", office.withdraw(c), model.withdraw(c));
        } else if (odds(50)) {
            is("close", office.close(r), model.close(r));
        }
    }

    private void move() {
        int which = n(10);
        if (which < 5) {
            int t = aThing();
            int bag = odds(30) ? -1 : aBag();
            is("into", office.into(t, bag), model.into(t, bag));
        } else if (which < 6) {
            int kind = some(6);
            int n = odds(90) ? 1 + n(20) : some(1002);
            is("days", office.days(kind, n), model.days(kind, n));
        } else {
            int n = odds(90) ? n(4) : some(102);
            is("day", office.day(n), model.day(n));
        }
    }

    private void compareAll(int i) {
        String when = "after call " + i + " (" + call + ") ";
        for (int what = -1; what < 15; what++) {
            is(when + "count " + what, office.count(what), model.count(what));
        }
        for (int t = -1; t <= model.things.size(); t++) {
            is(when + "gone " + t, office.gone(t), model.gone(t));
            comparePlaces(when, t);
            compareRows(when, false, t);
        }
        for (int c = -1; c <= model.claims.size(); c++) {
            for (int what = -1; what < 4; what++) {
                is(when + "claimed " + c + " " + what, claimed(c, what, true), claimed(c, what, false));
            }
        }
        for (int r = -1; r <= model.reports.size(); r++) {
            compareRows(when, true, r);
            compareReport(when, r);
        }
        for (int q = -1; q <= model.questions.size(); q++) {
            int a = anAnswer(q);
            int b = anAnswer(q);
            is(when + "mays " + q, office.mays(q, a, b), model.mays(q, a, b));
        }
    }

    private void comparePlaces(String when, int t) {
        for (int what = -1; what < 11; what++) {
            is(when + "place " + t + " " + what, place(t, what, true), place(t, what, false));
        }
        is(when + "like " + t, office.like(t, t / 2), model.like(t, t / 2));
    }

    private void compareRows(String when, boolean report, int x) {
        is(when + "length " + x, office.length(report, x), model.length(report, x));
        for (int q = -1; q <= 16; q++) {
            is(when + "known " + x + " " + q, office.known(report, x, q), model.known(report, x, q));
        }
    }

    private void compareReport(String when, int r) {
        String who = when + "report " + r + " ";
        is(who + "fitting", office.fitting(r), model.fitting(r));
        is(who + "ask", office.ask(r), model.ask(r));
        for (int t = -1; t <= model.things.size(); t += 3) {
            is(who + "fits " + t, office.fits(r, t), model.fits(r, t));
            is(who + "tells " + t, office.tells(r, t), model.tells(r, t));
            is(who + "strength " + t, office.strength(r, t), model.strength(r, t));
            is(who + "fit " + t, office.fit(r, t), model.fit(r, t));
        }
        if (r % 7 == 0) {
            is(who + "best", office.best(r), model.best(r));
            is(who + "sum", office.sum(r), model.sum(r));
            is(who + "also", office.also(r), model.also(r));
            is(who + "fewest", office.fewest(r), model.fewest(r));
            is(who + "group 0", office.group(r, 0), model.group(r, 0));
            is(who + "group 1", office.group(r, 1), model.group(r, 1));
        }
    }

    private long place(int t, int what, boolean real) {
        try {
            return real ? office.place(t, what) : model.place(t, what);
        } catch (NoSuchElementException e) {
            return Long.MIN_VALUE;
        }
    }

    private long claimed(int c, int what, boolean real) {
        try {
            return real ? office.claimed(c, what) : model.claimed(c, what);
        } catch (NoSuchElementException e) {
            return Long.MIN_VALUE;
        }
    }
}
