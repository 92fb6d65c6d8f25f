import java.lang.reflect.InvocationTargetException;
import java.lang.reflect.Method;
import java.util.NoSuchElementException;
import java.util.TreeSet;

/** Counts what is not as due; each test ends with it. */
final class Check {
    private static int made = 0;
    private static int wrong = 0;
    private static String test = "";

    private Check() {
    }

    static void same(String what, long got, long due) {
        made++;
        if (got != due) {
            wrong++;
            System.out.println(test + what + ": answered " + got + ", due is " + due);
        }
    }

    static void yes(String what, boolean got) {
        same(what, got ? 1 : 0, 1);
    }

    static void no(String what, boolean got) {
        same(what, got ? 1 : 0, 0);
    }

    static void placeThrows(String what, FoundOffice office, int t, int k) {
        boolean thrown = false;
        try {
            office.place(t, k);
        } catch (NoSuchElementException e) {
            thrown = true;
        }
        yes(what + " throws NoSuchElementException", thrown);
    }

    static void claimedThrows(String what, FoundOffice office, int c, int k) {
        boolean thrown = false;
        try {
            office.claimed(c, k);
        } catch (NoSuchElementException e) {
            thrown = true;
        }
        yes(what + " throws NoSuchElementException", thrown);
    }

    /**
     * Runs every test of a class: its static methods whose names begin with p, the promise's number and _.
     * Each of the promises has to have some, so that none is forgotten.
     */
    static void each(Class<?> tests, int... promises) {
        TreeSet<String> names = new TreeSet<>();
        for (Method m : tests.getDeclaredMethods()) {
            if (m.getName().matches("p[0-9]+_.*")) {
                names.add(m.getName());
            }
        }
        for (int promise : promises) {
            String start = "p" + promise + "_";
            yes("a test for promise " + promise, names.stream().anyMatch(name -> name.startsWith(start)));
        }
        for (String name : names) {
            test = name + ": ";
            run(tests, name);
        }
        test = "";
        end(tests.getSimpleName() + " (" + names.size() + " tests)");
    }

    private static void run(Class<?> tests, String name) {
        int before = wrong;
        try {
            Method m = tests.getDeclaredMethod(name);
            m.setAccessible(true);
            m.invoke(null);
        } catch (InvocationTargetException e) {
            wrong++;
            System.out.println(test + "ended with " + e.getCause());
        } catch (ReflectiveOperationException e) {
            wrong++;
            System.out.println(test + "can't be run: " + e);
        }
        if (wrong > before) {
            System.out.println("FAIL " + name);
        }
    }

    static void end(String name) {
        System.out.println(name + ": " + made + " checks, " + wrong + " not as due");
        if (wrong != 0) {
            System.exit(1);
        }
    }
}
