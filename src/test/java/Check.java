import java.util.NoSuchElementException;

/** Counts what is not as due; each test ends with it. */
final class Check {
    private static int made = 0;
    private static int wrong = 0;

    private Check() {
    }

    static void same(String what, long got, long due) {
        made++;
        if (got != due) {
            wrong++;
            System.out.println(what + ": answered " + got + ", due is " + due);
        }
    }

    static void yes(String what, boolean got) {
        same(what, got ? 1 : 0, 1);
    }

    static void no(String what, boolean got) {
        same(what, got ? 1 : 0, 0);
    }

    static void placeThrows(String what, FoundOffice office, int t, int k) {
        boolean thrown = false;
        try {
            office.place(t, k);
        } catch (NoSuchElementException e) {
            thrown = true;
        }
        yes(what + " throws NoSuchElementException", thrown);
    }

    static void claimedThrows(String what, FoundOffice office, int c, int k) {
        boolean thrown = false;
        try {
            office.claimed(c, k);
        } catch (NoSuchElementException e) {
            thrown = true;
        }
        yes(what + " throws NoSuchElementException", thrown);
    }

    static void end(String name) {
        System.out.println(name + ": " + made + " checks, " + wrong + " not as due");
        if (wrong != 0) {
            System.exit(1);
        }
    }
}
