import java.util.ArrayList;
import java.util.List;
import java.util.NoSuchElementException;

/**
 * A call that is refused changes nothing: of two offices that are made alike, the one had the call and
 * the other one had not; and all that can be asked of them then is answered alike.
 */
final class Twins {
    /** So many questions are asked of an office at most, as it is of use for 512 calls. */
    private static final int PAGE = 200;

    interface Deed {
        void on(FoundOffice x);
    }

    interface Ask {
        long of(FoundOffice x);
    }

    interface Truth {
        boolean of(FoundOffice x);
    }

    private Twins() {
    }

    static void refused(String what, Deed make, long due, Ask call) {
        refusedForNow(what, make, due, call);
        compare(what, make, due, call, gifts(make));
    }

    /** What is given next may differ. */
    static void refusedForNow(String what, Deed make, long due, Ask call) {
        List<Ask> asks = asks(make);
        for (int from = 0; from < asks.size(); from += PAGE) {
            compare(what, make, due, call, asks.subList(from, Math.min(from + PAGE, asks.size())));
        }
        compare(what, make, due, call, whatComes(make));
    }

    /** The same for what answers a boolean. */
    static void isFalse(String what, Deed make, Truth call) {
        refused(what, make, 0, x -> call.of(x) ? 1 : 0);
    }

    /** The same for what throws. */
    static void isThrown(String what, Deed make, Ask call) {
        refused(what, make, 1, x -> {
            try {
                call.of(x);
                return 0;
            } catch (NoSuchElementException e) {
                return 1;
            }
        });
    }

    private static void compare(String what, Deed make, long due, Ask call, List<Ask> asks) {
        FoundOffice plain = new FoundOffice();
        make.on(plain);
        FoundOffice other = new FoundOffice();
        make.on(other);
        Check.same(what, call.of(other), due);
        for (int i = 0; i < asks.size(); i++) {
            Check.same(what + ", asked " + i, asks.get(i).of(other), asks.get(i).of(plain));
        }
    }

    private static int made(Deed make, int what) {
        FoundOffice x = new FoundOffice();
        make.on(x);
        return x.count(what);
    }

    private static List<Ask> asks(Deed make) {
        int questions = made(make, 1);
        int things = made(make, 2);
        int reports = made(make, 3);
        List<Ask> asks = new ArrayList<>();
        for (int i = -1; i <= 14; i++) {
            int what = i;
            asks.add(x -> x.count(what));
        }
        addRows(asks, true, reports, questions);
        addRows(asks, false, things, questions);
        addPlaces(asks, things);
        addClaims(asks, made(make, 5));
        addMays(asks, questions);
        addWays(asks, Math.min(reports, 6), Math.min(things, 6));
        return asks;
    }

    private static void addRows(List<Ask> asks, boolean report, int count, int questions) {
        for (int i = 0; i < count; i++) {
            int of = i;
            asks.add(x -> x.length(report, of));
            for (int k = 0; k < questions; k++) {
                int q = k;
                asks.add(x -> x.known(report, of, q));
            }
        }
    }

    private static void addPlaces(List<Ask> asks, int things) {
        for (int i = 0; i < things; i++) {
            int t = i;
            asks.add(x -> x.gone(t));
            for (int k = 0; k <= 9; k++) {
                int what = k;
                asks.add(x -> x.place(t, what));
            }
        }
    }

    private static void addClaims(List<Ask> asks, int claims) {
        for (int i = 0; i < claims; i++) {
            int c = i;
            for (int k = 0; k <= 2; k++) {
                int what = k;
                asks.add(x -> x.claimed(c, what));
            }
        }
    }

    private static void addMays(List<Ask> asks, int questions) {
        for (int i = 0; i < questions; i++) {
            int q = i;
            for (int k = 0; k < 25; k++) {
                int a = k / 5;
                int b = k % 5;
                asks.add(x -> x.mays(q, a, b));
            }
            asks.add(x -> x.mays(q, 38, 39));
        }
    }

    private static void addWays(List<Ask> asks, int reports, int things) {
        for (int i = 0; i < reports; i++) {
            int r = i;
            asks.add(x -> x.best(r));
            asks.add(x -> x.sum(r));
            asks.add(x -> x.group(r, 0));
            for (int k = 0; k < things; k++) {
                int t = k;
                asks.add(x -> x.strength(r, t));
            }
        }
    }

    /** New ones of each, for their numbers, and then day by day. */
    private static List<Ask> whatComes(Deed make) {
        List<Ask> asks = new ArrayList<>();
        asks.add(x -> x.question(1, 0, 1));
        asks.add(x -> x.report(1));
        for (int i = 0; i < 6; i++) {
            int kind = i;
            asks.add(x -> x.thing(kind, 7, kind % 2 == 0, -1));
        }
        asks.add(x -> x.claim(0, 0));
        for (int i = 0; i < 61; i++) {
            asks.add(x -> x.day(1));
        }
        int things = made(make, 2) + 6;
        for (int i = 0; i < things; i++) {
            int k = i;
            asks.add(x -> x.gone(k));
        }
        return asks;
    }

    private static List<Ask> gifts(Deed make) {
        List<Ask> asks = new ArrayList<>();
        int claims = made(make, 5);
        for (int i = 0; i < claims; i++) {
            int c = i;
            asks.add(x -> x.give(c));
            asks.add(x -> x.give(c));
        }
        for (int i = 10; i < 14; i++) {
            int what = i;
            asks.add(x -> x.count(what));
        }
        return asks;
    }
}
