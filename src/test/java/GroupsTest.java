import java.util.HashMap;
import java.util.Map;
import java.util.Random;

/** Groups up to the limits, with many ways that are alike, and what is needed to tell things apart. */
public final class GroupsTest {
    private final Random random;
    private final String name;
    private final FoundOffice office = new FoundOffice();
    private final NaiveOffice model = new NaiveOffice();

    private GroupsTest(String name, long seed) {
        this.name = name + seed + " ";
        random = new Random(seed);
    }

    public static void main(String[] args) {
        int seeds = args.length > 0 ? Integer.parseInt(args[0]) : 150;
        for (long seed = 0; seed < seeds; seed++) {
            new GroupsTest("small ", seed).runGroups(1 + (int) seed % 7, 1 + (int) seed % 8, true);
            new GroupsTest("tight ", seed).runGroups(8, 4, true);
        }
        for (long seed = 0; seed < seeds / 25; seed++) {
            new GroupsTest("middle ", seed).runGroups(9, 13, seed % 2 == 0);
        }
        for (long seed = 0; seed < 3; seed++) {
            new GroupsTest("large ", seed).runGroups(10, 20, seed % 2 == 0);
            new GroupsTest("too many reports ", seed).runGroups(11, 5, true);
            new GroupsTest("too many things ", seed).runGroups(3, 21, true);
        }
        for (long seed = 0; seed < seeds; seed++) {
            new GroupsTest("asking ", seed).runAsking();
        }
        Check.end("GroupsTest");
    }

    private int n(int bound) {
        return random.nextInt(bound);
    }

    private void question(int sort, int count, int weight) {
        Check.same(name + "question", office.question(sort, count, weight), model.question(sort, count, weight));
    }

    private void mark(boolean report, int x, int q, int a) {
        Check.yes(name + "mark", office.mark(report, x, q, a) && model.mark(report, x, q, a));
    }

    private void runGroups(int reports, int things, boolean fewWeights) {
        int questions = 1 + n(5);
        for (int q = 0; q < questions; q++) {
            int count = 2 + n(4);
            question(0, count, fewWeights ? 1 + n(3) : 1 + n(100));
            for (int a = 0; a < count; a++) {
                for (int b = 0; b < a; b++) {
                    boolean is = n(3) != 0;
                    office.may(q, a, b, is);
                    model.may(q, a, b, is);
                }
            }
        }
        for (int t = 0; t < things; t++) {
            office.thing(t % 6, 0, false, -1);
            model.thing(t % 6, 0, false, -1);
            markSome(false, t, questions, 70);
        }
        for (int r = 0; r < reports; r++) {
            office.report(r + 1);
            model.report(r + 1);
            markSome(true, r, questions, 50);
        }
        compareWays(reports);
        int closed = n(reports);
        Check.yes(name + "close", office.close(closed) && model.close(closed));
        Check.same(name + "day", office.day(1), model.day(1));
        compareWays(reports);
    }

    private void markSome(boolean report, int x, int questions, int percent) {
        for (int q = 0; q < questions; q++) {
            if (n(100) < percent) {
                mark(report, x, q, n(model.questions.get(q).n));
            }
        }
    }

    private void compareWays(int reports) {
        Map<Integer, Integer> way = new HashMap<>();
        for (int r = 0; r < reports; r++) {
            Check.same(name + "group " + r, office.group(r, 0), model.group(r, 0));
            Check.same(name + "group things " + r, office.group(r, 1), model.group(r, 1));
            int trouble = model.wayTrouble(r);
            if (trouble == 0 && !way.containsKey(r)) {
                way = model.bestWay(r);
            }
            int given = trouble == 0 ? way.get(r) : trouble;
            Check.same(name + "best " + r, office.best(r), given);
            Check.same(name + "sum " + r, office.sum(r), trouble == 0 ? way.get(-1) : trouble);
            Check.same(name + "also " + r, office.also(r), given < 0 ? given : model.countAsStrong(r, given));
        }
    }

    private void runAsking() {
        int questions = 1 + n(16);
        int answers = 2 + n(3);
        int things = 1 + n(13);
        for (int q = 0; q < questions; q++) {
            question(0, answers, 1);
        }
        for (int t = 0; t < things; t++) {
            office.thing(0, 0, false, -1);
            model.thing(0, 0, false, -1);
            int rare = 1 + n(6);
            for (int q = 0; q < questions; q++) {
                if (n(8) != 0) {
                    mark(false, t, q, n(rare) == 0 ? n(answers) : 0);
                }
            }
        }
        office.report(1);
        model.report(1);
        Check.same(name + "fewest", office.fewest(0), model.fewest(0));
        Check.same(name + "ask", office.ask(0), model.ask(0));
        for (int q = 0; q < questions; q++) {
            Check.same(name + "parts " + q, office.parts(0, q), model.parts(0, q));
        }
        for (int t = 1; t < things; t++) {
            Check.same(name + "like " + t, office.like(t, t - 1), model.like(t, t - 1));
        }
        mark(true, 0, 0, 0);
        Check.same(name + "fewest of some", office.fewest(0), model.fewest(0));
        Check.same(name + "ask of some", office.ask(0), model.ask(0));
    }
}
