import java.util.ArrayList;
import java.util.HashMap;
import java.util.LinkedHashMap;
import java.util.List;
import java.util.Map;
import java.util.NoSuchElementException;
import java.util.TreeSet;

/** The document's words again, as slow and plain as they stand, to compare FoundOffice with. */
final class NaiveOffice {
    static final class Question {
        int sort;
        int n;
        int weight;
        TreeSet<Integer> pairs = new TreeSet<>();
    }

    static class Teller {
        List<Integer> row;

        Integer knows(int q) {
            return row == null || q < 0 || row.size() <= q ? null : row.get(q);
        }
    }

    static final class Thing extends Teller {
        int no;
        int kind;
        int finder;
        boolean wants;
        int age;
        Thing bag;
        boolean out;
        int to = -1;
        int outDay = -1;
        int why = -1;
    }

    static final class Report extends Teller {
        int no;
        int person;
        boolean open = true;
    }

    static final class Claim {
        Report r;
        Thing t;
        int how;
        boolean warned;

        boolean stands() {
            return how == 0 || how == 1;
        }
    }

    final List<Question> questions = new ArrayList<>();
    final List<Thing> things = new ArrayList<>();
    final List<Report> reports = new ArrayList<>();
    final List<Claim> claims = new ArrayList<>();
    final List<Thing> gone = new ArrayList<>();
    final int[] kindDays = {30, 30, 10, 60, 1, 10};
    int day = 0;

    private static <T> T at(List<T> list, int i) {
        return i < 0 || i >= list.size() ? null : list.get(i);
    }

    int question(int sort, int n, int weight) {
        boolean good = sort == 0 && n >= 1 && n <= 40 || sort == 1 && n >= 0 && n <= 10 || sort == 2 && n == 0;
        if (questions.size() == 16 || !good || weight < 1 || weight > 100) {
            return -1;
        }
        Question q = new Question();
        q.sort = sort;
        q.n = n;
        q.weight = weight;
        questions.add(q);
        return questions.size() - 1;
    }

    private boolean isAnswer(Question q, int a) {
        if (q.sort == 0) {
            return 0 <= a && a <= q.n - 1;
        }
        if (q.sort == 1) {
            return 0 <= a && a <= 30000;
        }
        for (int f = 0; f <= 99; f++) {
            for (int t = f; t <= 99; t++) {
                if (a == 100 * f + t) {
                    return true;
                }
            }
        }
        return false;
    }

    private boolean mayBe(Question q, int a, int b) {
        if (q.sort == 0) {
            return a == b || q.pairs.contains(a * 1000 + b);
        }
        if (q.sort == 1) {
            int greater = a > b ? a : b;
            int lesser = a > b ? b : a;
            return 10 * (greater - lesser) <= q.n * greater;
        }
        return !(a / 100 > b % 100) && !(b / 100 > a % 100);
    }

    boolean may(int q, int a, int b, boolean is) {
        Question x = at(questions, q);
        if (x == null || x.sort != 0 || !isAnswer(x, a) || !isAnswer(x, b) || a == b && !is) {
            return false;
        }
        if (is) {
            x.pairs.add(a * 1000 + b);
            x.pairs.add(b * 1000 + a);
        } else {
            x.pairs.remove(a * 1000 + b);
            x.pairs.remove(b * 1000 + a);
        }
        return true;
    }

    int mays(int q, int a, int b) {
        Question x = at(questions, q);
        if (x == null || !isAnswer(x, a) || !isAnswer(x, b)) {
            return -1;
        }
        return mayBe(x, a, b) ? 1 : 0;
    }

    int thing(int kind, int finder, boolean wants, int bag) {
        if (things.size() == 60 || kind < 0 || kind > 5 || finder < 0 || finder > 999) {
            return -1;
        }
        Thing b = at(things, bag);
        if (bag != -1 && (b == null || b.kind != 1 || b.out)) {
            return -1;
        }
        Thing t = new Thing();
        t.no = things.size();
        t.kind = kind;
        t.finder = finder;
        t.wants = wants;
        t.bag = b;
        things.add(t);
        return t.no;
    }

    int report(int person) {
        if (reports.size() == 60 || person < 1 || person > 999) {
            return -1;
        }
        Report r = new Report();
        r.no = reports.size();
        r.person = person;
        reports.add(r);
        return r.no;
    }

    private Teller teller(boolean report, int x) {
        if (report) {
            return at(reports, x);
        }
        return at(things, x);
    }

    boolean mark(boolean report, int x, int q, int a) {
        Teller w = teller(report, x);
        Question y = at(questions, q);
        if (w == null || y == null || a != -1 && !isAnswer(y, a)) {
            return false;
        }
        if (w.row == null) {
            w.row = new ArrayList<>();
        }
        while (w.row.size() <= q) {
            w.row.add(null);
        }
        w.row.set(q, a == -1 ? null : (Integer) a);
        return true;
    }

    boolean tear(boolean report, int x, int n) {
        Teller w = teller(report, x);
        if (w == null || n < -1 || w.row == null || w.row.size() < n) {
            return false;
        }
        w.row = n == -1 ? null : new ArrayList<>(w.row.subList(0, n));
        return true;
    }

    int known(boolean report, int x, int q) {
        Teller w = teller(report, x);
        return w == null || w.knows(q) == null ? -1 : w.knows(q);
    }

    int length(boolean report, int x) {
        Teller w = teller(report, x);
        return w == null || w.row == null ? -1 : w.row.size();
    }

    int tells(int r, int t) {
        if (at(reports, r) == null || at(things, t) == null) {
            return -1;
        }
        for (int q = 0; q < questions.size(); q++) {
            Integer a = reports.get(r).knows(q);
            Integer b = things.get(t).knows(q);
            if (a != null && b != null && !mayBe(questions.get(q), a, b)) {
                return q;
            }
        }
        return -1;
    }

    int fits(int r, int t) {
        if (at(reports, r) == null || at(things, t) == null) {
            return -1;
        }
        return tells(r, t) == -1 ? 1 : 0;
    }

    int strength(int r, int t) {
        if (fits(r, t) != 1) {
            return -1;
        }
        int sum = 0;
        for (int q = 0; q < questions.size(); q++) {
            Integer b = things.get(t).knows(q);
            if (reports.get(r).knows(q) == null || b == null) {
                continue;
            }
            int n = 0;
            for (Thing other : things) {
                if ((other.no == t || !other.out) && b.equals(other.knows(q))) {
                    n++;
                }
            }
            sum += questions.get(q).weight * 12 / n;
        }
        return sum;
    }

    private List<Thing> fitted(int r) {
        List<Thing> all = new ArrayList<>();
        for (Thing t : things) {
            if (!t.out && fits(r, t.no) == 1) {
                all.add(t);
            }
        }
        return all;
    }

    int fitting(int r) {
        return at(reports, r) == null ? -1 : fitted(r).size();
    }

    int fit(int r, int k) {
        if (at(reports, r) == null || at(fitted(r), k) == null) {
            return -1;
        }
        return fitted(r).get(k).no;
    }

    private boolean isOpen(int r) {
        return at(reports, r) != null && reports.get(r).open;
    }

    private TreeSet<Integer> groupReports(int r) {
        TreeSet<Integer> group = new TreeSet<>();
        List<Integer> todo = new ArrayList<>(List.of(r));
        group.add(r);
        while (!todo.isEmpty()) {
            List<Thing> mine = fitted(todo.remove(0));
            for (Report other : reports) {
                if (!other.open || group.contains(other.no)) {
                    continue;
                }
                for (Thing t : mine) {
                    if (fits(other.no, t.no) == 1) {
                        group.add(other.no);
                        todo.add(other.no);
                        break;
                    }
                }
            }
        }
        return group;
    }

    private TreeSet<Integer> groupThings(TreeSet<Integer> group) {
        TreeSet<Integer> all = new TreeSet<>();
        for (int r : group) {
            for (Thing t : fitted(r)) {
                all.add(t.no);
            }
        }
        return all;
    }

    int group(int r, int what) {
        if (!isOpen(r) || what != 0 && what != 1) {
            return -1;
        }
        TreeSet<Integer> group = groupReports(r);
        return what == 0 ? group.size() : groupThings(group).size();
    }

    int wayTrouble(int r) {
        if (!isOpen(r)) {
            return -1;
        }
        return group(r, 0) > 10 || group(r, 1) > 20 ? -2 : 0;
    }

    /** The greatest sum from report i on with these things free, by trying all. */
    private int greatest(int[][] strengths, int i, int free, Map<Long, Integer> memo) {
        if (i == strengths.length) {
            return 0;
        }
        long key = (long) free * 16 + i;
        Integer old = memo.get(key);
        if (old != null) {
            return old;
        }
        int most = greatest(strengths, i + 1, free, memo);
        for (int j = 0; j < strengths[i].length; j++) {
            if ((free >> j & 1) != 0 && strengths[i][j] >= 0) {
                most = Math.max(most, strengths[i][j] + greatest(strengths, i + 1, free & ~(1 << j), memo));
            }
        }
        memo.put(key, most);
        return most;
    }

    /** What the best way gives each report of the group; and the sum, for the key -1. */
    Map<Integer, Integer> bestWay(int r) {
        List<Integer> rs = new ArrayList<>(groupReports(r));
        List<Integer> ts = new ArrayList<>(groupThings(new TreeSet<>(rs)));
        int[][] strengths = new int[rs.size()][ts.size()];
        for (int i = 0; i < rs.size(); i++) {
            for (int j = 0; j < ts.size(); j++) {
                strengths[i][j] = strength(rs.get(i), ts.get(j));
            }
        }
        Map<Long, Integer> memo = new HashMap<>();
        int free = (1 << ts.size()) - 1;
        Map<Integer, Integer> way = new HashMap<>();
        way.put(-1, greatest(strengths, 0, free, memo));
        for (int i = 0; i < rs.size(); i++) {
            int due = greatest(strengths, i, free, memo);
            way.put(rs.get(i), -1);
            for (int j = 0; j < ts.size(); j++) {
                if ((free >> j & 1) != 0 && strengths[i][j] >= 0
                        && strengths[i][j] + greatest(strengths, i + 1, free & ~(1 << j), memo) == due) {
                    way.put(rs.get(i), ts.get(j));
                    free &= ~(1 << j);
                    break;
                }
            }
        }
        return way;
    }

    int best(int r) {
        return wayTrouble(r) != 0 ? wayTrouble(r) : bestWay(r).get(r);
    }

    int sum(int r) {
        return wayTrouble(r) != 0 ? wayTrouble(r) : bestWay(r).get(-1);
    }

    int also(int r) {
        int b = best(r);
        return b < 0 ? b : countAsStrong(r, b);
    }

    int countAsStrong(int r, int b) {
        int n = 0;
        for (Thing t : fitted(r)) {
            if (strength(r, t.no) >= strength(r, b)) {
                n++;
            }
        }
        return n;
    }

    private List<List<Thing>> classes(List<Thing> all, int q) {
        Map<Integer, List<Thing>> by = new LinkedHashMap<>();
        for (Thing t : all) {
            by.computeIfAbsent(t.knows(q) == null ? -1 : t.knows(q), k -> new ArrayList<>()).add(t);
        }
        return new ArrayList<>(by.values());
    }

    int like(int a, int b) {
        if (at(things, a) == null || at(things, b) == null) {
            return -1;
        }
        for (int q = 0; q < questions.size(); q++) {
            if (classes(List.of(things.get(a), things.get(b)), q).size() > 1) {
                return 0;
            }
        }
        return 1;
    }

    int parts(int r, int q) {
        return at(reports, r) == null || at(questions, q) == null ? -1 : classes(fitted(r), q).size();
    }

    int ask(int r) {
        int first = -1;
        if (at(reports, r) == null) {
            return -1;
        }
        for (int q = 0; q < questions.size(); q++) {
            if (parts(r, q) > 1 && (first == -1 || parts(r, q) > parts(r, first))) {
                first = q;
            }
        }
        return first;
    }

    private int needed(List<Thing> all, Map<List<Thing>, Integer> memo) {
        Integer old = memo.get(all);
        if (old != null) {
            return old;
        }
        int least = -1;
        for (int q = 0; q < questions.size(); q++) {
            List<List<Thing>> parts = classes(all, q);
            if (parts.size() < 2) {
                continue;
            }
            int most = 0;
            for (List<Thing> part : parts) {
                most = Math.max(most, needed(part, memo));
            }
            if (least == -1 || most < least) {
                least = most;
            }
        }
        memo.put(all, least + 1);
        return least + 1;
    }

    int fewest(int r) {
        if (at(reports, r) == null) {
            return -1;
        }
        return fitted(r).size() > 12 ? -2 : needed(fitted(r), new HashMap<>());
    }

    int claim(int r, int t) {
        if (!isOpen(r)) {
            return -1;
        }
        if (at(things, t) == null) {
            return -2;
        }
        if (things.get(t).out) {
            return -3;
        }
        if (fits(r, t) == 0) {
            return -4;
        }
        for (Claim c : claims) {
            if (c.stands() && c.r.no == r && c.t.no == t) {
                return -5;
            }
        }
        if (claims.size() == 100) {
            return -6;
        }
        Claim c = new Claim();
        c.r = reports.get(r);
        c.t = things.get(t);
        claims.add(c);
        return claims.size() - 1;
    }

    int prove(int c, int q, int a) {
        Claim x = at(claims, c);
        if (x == null || !x.stands()) {
            return 1;
        }
        if (at(questions, q) == null) {
            return 2;
        }
        if (x.r.knows(q) != null) {
            return 3;
        }
        if (x.t.knows(q) == null) {
            return 4;
        }
        if (x.t.knows(q) != a) {
            x.how = 3;
            return 5;
        }
        x.how = 1;
        return 0;
    }

    private void goOut(Thing t, int to, int why, Report given) {
        t.bag = null;
        t.out = true;
        t.to = to;
        t.why = why;
        t.outDay = day;
        gone.add(t);
        for (Claim c : claims) {
            if (c.t == t && c.stands()) {
                c.how = 5;
            }
        }
        for (Thing inside : things) {
            if (inside.bag != t) {
                continue;
            }
            boolean claimedElsewhere = false;
            for (Claim c : claims) {
                claimedElsewhere |= c.t == inside && c.stands() && c.r != given;
            }
            if (claimedElsewhere) {
                inside.bag = null;
            } else {
                goOut(inside, to, why, given);
            }
        }
    }

    int give(int c) {
        Claim x = at(claims, c);
        if (x == null || !x.stands()) {
            return 1;
        }
        if (x.how != 1) {
            return 2;
        }
        for (int i = 0; i < c; i++) {
            if (claims.get(i).t == x.t && claims.get(i).how == 1) {
                return 3;
            }
        }
        if (fits(x.r.no, x.t.no) == 0) {
            return 4;
        }
        if (x.t.kind == 3 && !x.warned) {
            x.warned = true;
            return 5;
        }
        x.how = 4;
        close(x.r.no);
        goOut(x.t, x.r.person, 1, x.r);
        return 0;
    }

    boolean withdraw(int c) {
        Claim x = at(claims, c);
        if (x == null || !x.stands()) {
            return false;
        }
        x.how = 2;
        return true;
    }

    boolean close(int r) {
        if (!isOpen(r)) {
            return false;
        }
        reports.get(r).open = false;
        for (Claim c : claims) {
            if (c.r.no == r && c.stands()) {
                c.how = 2;
            }
        }
        return true;
    }

    int claimed(int c, int what) {
        Claim x = at(claims, c);
        if (x == null || what < 0 || what > 2) {
            throw new NoSuchElementException();
        }
        return what == 0 ? x.how : what == 1 ? x.r.no : x.t.no;
    }

    boolean into(int t, int bag) {
        Thing x = at(things, t);
        Thing b = at(things, bag);
        if (x == null || x.out || bag != -1 && (b == null || b.kind != 1 || b.out)) {
            return false;
        }
        for (Thing up = b; up != null; up = up.bag) {
            if (up == x) {
                return false;
            }
        }
        x.bag = b;
        return true;
    }

    private boolean isClaimed(Thing t) {
        for (Claim c : claims) {
            if (c.t == t && c.stands()) {
                return true;
            }
        }
        return false;
    }

    int place(int t, int what) {
        Thing x = at(things, t);
        if (x == null) {
            throw new NoSuchElementException();
        }
        int n = 0;
        switch (what) {
            case 0: return x.out ? 2 : x.bag != null ? 1 : 0;
            case 1: return x.bag == null ? -1 : x.bag.no;
            case 2: return x.age;
            case 3: return x.kind;
            case 4: return x.finder;
            case 5: return x.to;
            case 6: return x.outDay;
            case 7: return x.why;
            case 8:
                for (Thing inside : things) {
                    n += inside.bag == x ? 1 : 0;
                }
                return n;
            case 9:
                for (Claim c : claims) {
                    n += c.t == x && c.stands() ? 1 : 0;
                }
                return n;
            default: throw new NoSuchElementException();
        }
    }

    boolean days(int kind, int n) {
        if (kind < 0 || kind > 5 || n < 1 || n > 1000) {
            return false;
        }
        kindDays[kind] = n;
        return true;
    }

    int day(int n) {
        if (n < 0 || n > 100) {
            return -1;
        }
        int before = gone.size();
        for (int i = 0; i < n; i++) {
            day++;
            for (Thing t : things) {
                if (t.out || t.bag != null || isClaimed(t)) {
                    continue;
                }
                t.age++;
                if (t.age >= kindDays[t.kind]) {
                    boolean back = t.finder != 0 && t.wants;
                    goOut(t, back ? t.finder : 0, back ? 2 : t.kind == 4 ? 3 : 4, null);
                }
            }
        }
        return gone.size() - before;
    }

    int count(int what) {
        int n = 0;
        switch (what) {
            case 0: return day;
            case 1: return questions.size();
            case 2: return things.size();
            case 3: return reports.size();
            case 4:
                for (Report r : reports) {
                    n += r.open ? 1 : 0;
                }
                return n;
            case 5: return claims.size();
            case 6:
                for (Claim c : claims) {
                    n += c.stands() ? 1 : 0;
                }
                return n;
            case 7: case 8: case 9:
                for (Thing t : things) {
                    n += place(t.no, 0) == what - 7 ? 1 : 0;
                }
                return n;
            case 10: case 11: case 12: case 13:
                for (Thing t : things) {
                    n += t.why == what - 9 ? 1 : 0;
                }
                return n;
            default: return -1;
        }
    }

    int gone(int k) {
        return at(gone, k) == null ? -1 : gone.get(k).no;
    }
}
