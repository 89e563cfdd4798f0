/** Promises 33 and 34: races elsewhere. */
public final class EntriesTest {
    private static final Check check = new Check("EntriesTest");

    public static void main(String[] args) {
        promise33Entry();
        promise34Clashes();
        promise34Chains();
        promise34Wrong();
        check.end();
    }

    private static void promise33Entry() {
        TrainMile x = new TrainMile();
        check.due("nobody", x.entry(0, 0, 0, 1), Check.BEYOND);
        x.runner(5, 0);
        x.runner(5, 0);
        check.due("entry(0, 0, 0, 1)", x.entry(0, 0, 0, 1), 1);
        check.due("entry(0, 365, 30, 2324)", x.entry(0, 365, 30, 2324), 2);
        check.due("entry(1, 5, 5, 24)", x.entry(1, 5, 5, 24), 1);
        int[][] wrong = {
            {2, 0, 0, 1}, {-1, 0, 0, 1}, {0, -1, 0, 1}, {0, 366, 0, 1}, {0, 0, -1, 1}, {0, 0, 31, 1},
            {0, 0, 0, 0}, {0, 0, 0, 25}, {0, 0, 0, 505}, {0, 0, 0, 504}, {0, 0, 0, 2425}, {0, 0, 0, 2424},
            {0, 0, 0, -1}, {0, 0, 0, 2300}, {0, 0, 0, 10099}, {0, 0, 0, Integer.MIN_VALUE},
        };
        for (int[] w : wrong) {
            check.due("entry(" + w[0] + ", " + w[1] + ", " + w[2] + ", " + w[3] + ")",
                    x.entry(w[0], w[1], w[2], w[3]), Check.BEYOND);
        }
        check.due("told(9)", x.told(9), 3);
        for (int i = 3; i <= 8; i++) {
            check.due("entry " + i, x.entry(0, i, 0, 1), i);
        }
        check.due("entry 9", x.entry(0, 9, 0, 1), Check.FULL);
        check.due("entry 9, BEYOND ahead of FULL", x.entry(0, 366, 0, 1), Check.BEYOND);
        check.due("the other one has room", x.entry(1, 9, 0, 1), 2);
        check.due("told(9)", x.told(9), 10);
    }

    /** How many CLASH of two ENTRIES. */
    private static int two(int day, int town, int hours, int otherDay, int otherTown, int otherHours) {
        TrainMile x = new TrainMile();
        x.runner(5, 0);
        x.entry(0, day, town, hours);
        x.entry(0, otherDay, otherTown, otherHours);
        int clashes = x.same(0, 0);
        check.due("the most without", x.same(0, 1), 2 - clashes);
        return clashes;
    }

    private static void promise34Clashes() {
        check.due("one behind the other", two(3, 5, 810, 3, 5, 1012), 0);
        check.due("one ahead of the other", two(3, 5, 1012, 3, 5, 810), 0);
        check.due("over by an hour", two(3, 5, 811, 3, 5, 1012), 1);
        check.due("over by an hour", two(3, 5, 1012, 3, 5, 811), 1);
        check.due("alike", two(3, 5, 811, 3, 5, 811), 1);
        check.due("within", two(3, 5, 820, 3, 5, 911), 1);
        check.due("another DAY", two(3, 5, 811, 4, 5, 811), 0);
        check.due("2 TOWNS apart: 0 hours", two(3, 5, 810, 3, 7, 1012), 0);
        check.due("3 TOWNS apart: 1 hour", two(3, 5, 810, 3, 8, 1012), 1);
        check.due("3 TOWNS apart: 1 hour", two(3, 8, 810, 3, 5, 1112), 0);
        check.due("5 TOWNS apart: 1 hour", two(3, 8, 810, 3, 3, 1112), 0);
        check.due("6 TOWNS apart: 2 hours", two(3, 8, 810, 3, 2, 1112), 1);
        check.due("30 TOWNS apart: 10 hours", two(3, 30, 1, 3, 0, 1112), 0);
        check.due("30 TOWNS apart: 10 hours", two(3, 30, 1, 3, 0, 1012), 1);
    }

    private static void promise34Chains() {
        TrainMile x = new TrainMile();
        x.runner(5, 0);
        x.runner(5, 0);
        check.due("none", x.same(0, 0), 0);
        check.due("none", x.same(0, 1), 0);
        x.entry(0, 1, 0, 808 + 2);
        check.due("one", x.same(0, 0), 0);
        check.due("one", x.same(0, 1), 1);
        // A chain in which each clashes with the next alone: 8-10, 9-12, 11-14, 13-16, 15-18.
        x.entry(0, 1, 0, 912);
        x.entry(0, 1, 0, 1114);
        x.entry(0, 1, 0, 1316);
        x.entry(0, 1, 0, 1518);
        check.due("a chain of five", x.same(0, 0), 4);
        check.due("a chain of five", x.same(0, 1), 3);
        x.entry(0, 1, 0, 24);
        check.due("one over all", x.same(0, 0), 9);
        check.due("one over all", x.same(0, 1), 3);
        x.entry(0, 2, 0, 24);
        x.entry(0, 2, 0, 24);
        check.due("two more on another DAY", x.same(0, 0), 10);
        check.due("two more on another DAY", x.same(0, 1), 4);
        check.due("the other RUNNER", x.same(1, 0), 0);
        TrainMile y = new TrainMile();
        y.runner(5, 0);
        for (int i = 0; i < 8; i++) {
            y.entry(0, i, 0, 24);
        }
        check.due("eight DAYS", y.same(0, 0), 0);
        check.due("eight DAYS", y.same(0, 1), 8);
        TrainMile z = new TrainMile();
        z.runner(5, 0);
        for (int i = 0; i < 8; i++) {
            z.entry(0, 7, i, 24);
        }
        check.due("all eight clash", z.same(0, 0), 28);
        check.due("all eight clash", z.same(0, 1), 1);
    }

    private static void promise34Wrong() {
        TrainMile x = new TrainMile();
        check.due("nobody", x.same(0, 0), Check.BEYOND);
        x.runner(5, 0);
        check.due("same(1, 0)", x.same(1, 0), Check.BEYOND);
        check.due("same(-1, 0)", x.same(-1, 0), Check.BEYOND);
        check.due("same(0, 2)", x.same(0, 2), Check.BEYOND);
        check.due("same(0, -1)", x.same(0, -1), Check.BEYOND);
    }
}
