/** The boundary cases of promises 33 and 34: races elsewhere. */
public final class EntriesEdgesTest {
    private static final Check check = new Check("EntriesEdgesTest");
    private static final Edge edge = new Edge(check);

    public static void main(String[] args) {
        promise33Refused();
        promise33Hours();
        promise33EightEach();
        promise33Full();
        promise34Refused();
        promise34NeitherIsOver();
        promise34AThirdIsCut();
        promise34OneDay();
        promise34EachRunnersOwn();
        promise34Most();
        promise34MostWithoutTheFirst();
        check.end();
    }

    private static void promise33Refused() {
        edge.says("ENTRIES of a RUNNER (at most 8 each): a DAY (0 .. 365), a TOWN (0 .. 30)");
        edge.in(Worlds::busy);
        edge.spans("entry(%d, 0, 0, 1)", (x, v) -> x.entry(v, 0, 0, 1), 0, 2);
        edge.spans("entry(0, %d, 0, 1)", (x, v) -> x.entry(0, v, 0, 1), 0, 365);
        edge.spans("entry(0, 0, %d, 1)", (x, v) -> x.entry(0, 0, v, 1), 0, 30);
        edge.takes("how many its RUNNER has", x -> x.entry(0, 365, 30, 2324), 3);
        edge.takes("how many its RUNNER has", x -> x.entry(1, 365, 30, 2324), 2);
        edge.takes("how many its RUNNER has", x -> x.entry(2, 365, 30, 2324), 1);
        edge.in(Worlds::fresh);
        edge.refuses("nobody", x -> x.entry(0, 0, 0, 1), Check.BEYOND);
    }

    private static void promise33Hours() {
        edge.says("hours: 100 times the hour from, and that to");
        edge.in(Worlds::busy);
        edge.takesEach("entry(0, 0, 0, %d)", (x, v) -> x.entry(0, 0, 0, v), 1, 2, 24, 102, 1213, 1224, 2223, 2224, 2324);
        edge.refusesEach("entry(0, 0, 0, %d)", (x, v) -> x.entry(0, 0, 0, v),
                0, 25, 99, 100, 101, 125, 1200, 1211, 1212, 1225, 1299, 2322, 2323, 2325, 2400, 2424, 2425,
                2425 + 100, 10024, 65537, -1, -24, -99, -100, -101, -1213, Integer.MIN_VALUE, Integer.MAX_VALUE);
    }

    private static void promise33EightEach() {
        edge.says("ENTRIES of a RUNNER (at most 8 each)");
        TrainMile x = new TrainMile();
        for (int r = 0; r < 12; r++) {
            x.runner(5, 0);
        }
        for (int i = 1; i <= 8; i++) {
            for (int r = 0; r < 12; r++) {
                edge.due("entry " + i + " of RUNNER " + r, x.entry(r, i, r, 2324), i);
            }
            edge.due("told(9)", x.told(9), 12 * i);
        }
        for (int r = 0; r < 12; r++) {
            edge.due("one more of RUNNER " + r, x.entry(r, 9, r, 2324), Check.FULL);
        }
        edge.due("told(9)", x.told(9), 96);
        edge.due("all of the last one", x.same(11, 1), 8);
    }

    private static void promise33Full() {
        edge.says("An ENTRY: how many its RUNNER has");
        edge.in(Worlds::full);
        edge.refuses("one more of RUNNER 0", x -> x.entry(0, 0, 0, 1), Check.FULL);
        edge.refuses("one more of RUNNER 11", x -> x.entry(11, 365, 30, 2324), Check.FULL);
        edge.takes("RUNNER 1 has room", x -> x.entry(1, 0, 0, 1), 1);
        edge.says("Each act tells its findings in the order in which they are asked");
        edge.refuses("BEYOND ahead of FULL: runner", x -> x.entry(12, 0, 0, 1), Check.BEYOND);
        edge.refuses("BEYOND ahead of FULL: day", x -> x.entry(0, 366, 0, 1), Check.BEYOND);
        edge.refuses("BEYOND ahead of FULL: town", x -> x.entry(0, 0, 31, 1), Check.BEYOND);
        edge.refuses("BEYOND ahead of FULL: hours", x -> x.entry(0, 0, 0, 0), Check.BEYOND);
    }

    private static void promise34Refused() {
        edge.says("0 how many two ENTRIES of a RUNNER CLASH, 1 the most of them of which no two do");
        edge.in(Worlds::busy);
        edge.spans("same(%d, 0)", (x, v) -> x.same(v, 0), 0, 2);
        edge.spans("same(%d, 1)", (x, v) -> x.same(v, 1), 0, 2);
        edge.spans("same(0, %d)", (x, v) -> x.same(0, v), 0, 1);
        edge.takes("without ENTRIES", x -> x.same(2, 0), 0);
        edge.takes("without ENTRIES", x -> x.same(2, 1), 0);
        edge.takes("of one", x -> x.same(1, 0), 0);
        edge.takes("of one", x -> x.same(1, 1), 1);
        edge.in(Worlds::fresh);
        edge.refuses("nobody", x -> x.same(0, 0), Check.BEYOND);
    }

    /** Two ENTRIES, told in both orders: whether they CLASH. */
    private static void clash(String what, int[] one, int[] other, int due) {
        for (int order = 0; order < 2; order++) {
            TrainMile x = new TrainMile();
            x.runner(5, 0);
            int[] first = order == 0 ? one : other;
            int[] second = order == 0 ? other : one;
            x.entry(0, first[0], first[1], first[2]);
            x.entry(0, second[0], second[1], second[2]);
            edge.due(what, x.same(0, 0), due);
            edge.due(what + ": the most", x.same(0, 1), 2 - due);
        }
    }

    private static int[] entry(int day, int town, int hours) {
        return new int[] {day, town, hours};
    }

    private static void promise34NeitherIsOver() {
        edge.says("from an hour (0 .. 23) to another one (1 .. 24, behind it)");
        clash("the first hour and the last", entry(0, 0, 1), entry(0, 0, 2324), 0);
        clash("the whole DAY and its first hour", entry(0, 0, 24), entry(0, 0, 1), 1);
        clash("the whole DAY and its last hour", entry(0, 0, 24), entry(0, 0, 2324), 1);
        edge.says("if neither is over");
        clash("over by when the other one begins", entry(0, 0, 1), entry(0, 0, 102), 0);
        clash("an hour too late", entry(0, 0, 2), entry(0, 0, 103), 1);
        clash("at the end of the DAY", entry(365, 30, 2223), entry(365, 30, 2324), 0);
        clash("at the end of the DAY", entry(365, 30, 2224), entry(365, 30, 2324), 1);
        clash("the very same", entry(7, 7, 2324), entry(7, 7, 2324), 1);
        clash("one within the other", entry(7, 7, 24), entry(7, 7, 1112), 1);
        clash("they begin together", entry(7, 7, 1112), entry(7, 7, 1124), 1);
        clash("they end together", entry(7, 7, 1124), entry(7, 7, 2324), 1);
    }

    private static void promise34AThirdIsCut() {
        edge.says("and so many hours more as a third of the difference of their TOWNS, by when the other one begins");
        for (int difference = 0; difference <= 30; difference++) {
            int more = difference / 3;
            int begins = 3 + more;
            clash(difference + " TOWNS apart, just in time",
                    entry(1, 0, 203), entry(1, difference, 100 * begins + 24), 0);
            clash(difference + " TOWNS apart, an hour too late",
                    entry(1, difference, 204), entry(1, 0, 100 * begins + 24), 1);
        }
        edge.says("All quotients are cut");
        clash("2 apart are no hour", entry(1, 28, 203), entry(1, 30, 304), 0);
        clash("3 apart are one", entry(1, 27, 203), entry(1, 30, 304), 1);
        clash("5 apart are one", entry(1, 25, 203), entry(1, 30, 405), 0);
        clash("10 hours past the DAY's end don't matter", entry(1, 0, 2024), entry(1, 30, 1), 0);
        clash("10 hours from 1 are 11", entry(1, 0, 1), entry(1, 30, 1011), 1);
        clash("10 hours from 1 are 11", entry(1, 0, 1), entry(1, 30, 1112), 0);
    }

    private static void promise34OneDay() {
        edge.says("CLASH on one DAY");
        clash("the next DAY", entry(0, 0, 24), entry(1, 30, 24), 0);
        clash("the last DAY and the first", entry(365, 0, 24), entry(0, 0, 24), 0);
        clash("the last DAY", entry(365, 0, 24), entry(365, 0, 24), 1);
        clash("the first DAY", entry(0, 0, 24), entry(0, 0, 24), 1);
    }

    private static void promise34EachRunnersOwn() {
        edge.says("Two of one RUNNER CLASH");
        TrainMile x = new TrainMile();
        for (int r = 0; r < 12; r++) {
            x.runner(5, 0);
        }
        for (int r = 0; r < 12; r++) {
            for (int i = 0; i < 8; i++) {
                x.entry(r, i < r % 8 ? 100 : i, 0, 24);
            }
        }
        for (int r = 0; r < 12; r++) {
            int alike = r % 8;
            edge.due("RUNNER " + r + ", how many CLASH", x.same(r, 0), alike * (alike - 1) / 2);
            edge.due("RUNNER " + r + ", the most", x.same(r, 1), alike == 0 ? 8 : 9 - alike);
        }
    }

    private static void promise34Most() {
        edge.says("1 the most of them of which no two do");
        TrainMile all = new TrainMile();
        TrainMile none = new TrainMile();
        TrainMile two = new TrainMile();
        all.runner(5, 0);
        none.runner(5, 0);
        two.runner(5, 0);
        for (int i = 0; i < 8; i++) {
            all.entry(0, 5, 0, 24);
            none.entry(0, 5, 0, 200 * i + 2 * i + 1);
            two.entry(0, i / 2, 0, 24);
        }
        edge.due("all eight CLASH", all.same(0, 0), 28);
        edge.due("all eight CLASH", all.same(0, 1), 1);
        edge.due("none does", none.same(0, 0), 0);
        edge.due("none does", none.same(0, 1), 8);
        edge.due("two by two", two.same(0, 0), 4);
        edge.due("two by two", two.same(0, 1), 4);
    }

    private static void promise34MostWithoutTheFirst() {
        edge.says("the most of them of which no two do");
        for (int at = 0; at < 8; at++) {
            TrainMile x = new TrainMile();
            x.runner(5, 0);
            for (int i = 0; i < 8; i++) {
                x.entry(0, 5, 0, i == at ? 24 : 100 * (i + 1) + i + 2);
            }
            edge.due("one over all, told as number " + at, x.same(0, 0), 7);
            edge.due("one over all, told as number " + at, x.same(0, 1), 7);
        }
    }
}
