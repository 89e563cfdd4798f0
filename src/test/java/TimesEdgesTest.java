/** The boundary cases of promises 24 to 32: what times tell. */
public final class TimesEdgesTest {
    private static final Check check = new Check("TimesEdgesTest");
    private static final Edge edge = new Edge(check);

    public static void main(String[] args) {
        promise24Least();
        promise25Refused();
        promise25Gaps();
        promise25OnFoot();
        promise25ByWays();
        promise25ByWaysAtLeastOne();
        promise25BelowZero();
        promise26Refused();
        promise26Apart();
        promise26TwoMarks();
        promise26All();
        promise27Refused();
        promise27AheadAndBehind();
        promise28Refused();
        promise28LeastAndMostNumbers();
        promise28OfSeveralTheFirst();
        promise28Sums();
        promise28MiddleOnes();
        promise29Refused();
        promise29Without();
        promise29HalfWay();
        promise29MinusOne();
        promise29MatsThatDidNotHear();
        promise29CompanyWithinOne();
        promise30Judge();
        promise31Refused();
        promise31State();
        promise31Fewer();
        promise31FromZero();
        promise32Up();
        check.end();
    }

    /** RUNNERS on n PIECES who take as many minutes as they are strong for each of them. */
    private static TrainMile steady(int n, int... strengths) {
        TrainMile x = new TrainMile();
        x.road(n);
        for (int s : strengths) {
            x.runner(s, 0);
        }
        Check.text(x, 0, "a");
        return x;
    }

    private static void promise24Least() {
        edge.says("LEAST (1 .. 30; 3 at first)");
        edge.in(Worlds::busy);
        edge.spans("least(%d)", TrainMile::least, 1, 30);
        edge.takes("what it was", x -> x.least(30), 4);
        edge.in(Worlds::fresh);
        edge.takes("3 at first", x -> x.least(1), 3);
        edge.takes("twice", x -> x.least(30) * 100 + x.least(1), 330);
    }

    private static void promise25Refused() {
        edge.says("BEYOND: no such SHOE, what. NONE: it has no such GAP");
        edge.in(() -> {
            TrainMile x = steady(4, 5, 6, 7);
            x.mat(2, true);
            x.race();
            return x;
        });
        edge.spans("gap(%d, 0, 0)", (x, v) -> x.gap(v, 0, 0), 0, 2);
        edge.spans("gap(0, 0, %d)", (x, v) -> x.gap(0, 0, v), 0, 4);
        edge.takesEach("gap(0, %d, 0)", (x, v) -> x.gap(0, v, 0), 0, 1);
        for (int i : new int[] {-1, 2, 3, Integer.MIN_VALUE, Integer.MAX_VALUE}) {
            for (int what = 0; what < 5; what++) {
                int w = what;
                edge.refuses("gap(0, " + i + ", " + what + ")", x -> x.gap(0, i, w), Check.NONE);
            }
        }
        edge.says("Each act tells its findings in the order in which they are asked");
        edge.refuses("BEYOND ahead of NONE", x -> x.gap(3, 2, 0), Check.BEYOND);
        edge.refuses("BEYOND ahead of NONE", x -> x.gap(0, 2, 5), Check.BEYOND);
        edge.in(Worlds::fresh);
        edge.refuses("gap(0, 0, 0)", x -> x.gap(0, 0, 0), Check.BEYOND);
    }

    private static void promise25Gaps() {
        edge.says("GAPS of a SHOE are from each MARK at which it is HEARD to the next such one");
        TrainMile x = steady(24, 5);
        edge.due("ahead of THE RACE", x.gap(0, 0, 0), Check.NONE);
        x.race();
        edge.due("HEARD at two: from", x.gap(0, 0, 0), 0);
        edge.due("HEARD at two: to", x.gap(0, 0, 1), 24);
        edge.due("HEARD at two: minutes", x.gap(0, 0, 2), 120);
        edge.due("no second one", x.gap(0, 1, 0), Check.NONE);
        Edge.allMats(x);
        x.race();
        for (int i = 0; i < 24; i++) {
            edge.due("HEARD at all: from", x.gap(0, i, 0), i);
            edge.due("HEARD at all: to", x.gap(0, i, 1), i + 1);
            edge.due("HEARD at all: minutes", x.gap(0, i, 2), 5);
        }
        edge.due("as many as PIECES, and no more", x.gap(0, 24, 0), Check.NONE);
        TrainMile y = steady(4, 5);
        y.going(7, 0, 0, 0);
        y.race();
        edge.due("HEARD at one alone", y.gap(0, 0, 0), Check.NONE);
        y.going(7, 0, 400, 0);
        y.race();
        edge.due("HEARD nowhere", y.gap(0, 0, 0), Check.NONE);
    }

    private static void promise25OnFoot() {
        edge.says("ON FOOT one may be, if it took LEAST");
        TrainMile x = steady(24, 1, 2, 3, 29, 30);
        x.race();
        int[] byThree = {0, 0, 1, 1, 1};
        for (int r = 0; r < 5; r++) {
            edge.due("3 at first, SHOE " + r, x.gap(r, 0, 3), byThree[r]);
        }
        x.least(1);
        edge.due("1: just so many", x.gap(0, 0, 3), 1);
        x.least(2);
        edge.due("2: too few", x.gap(0, 0, 3), 0);
        x.least(30);
        edge.due("30: too few", x.gap(3, 0, 3), 0);
        edge.due("30: just so many", x.gap(4, 0, 3), 1);
        edge.says("minutes or more for each PIECE");
        Check.text(x, 0, "30-(b=23)");
        x.race();
        edge.due("one minute less on all 24", x.gap(4, 0, 2), 719);
        edge.due("is too few", x.gap(4, 0, 3), 0);
        x.mat(23, true);
        x.race();
        edge.due("up to 23 it may be", x.gap(4, 0, 3), 1);
        edge.due("from 23 on it may not", x.gap(4, 1, 3), 0);
    }

    private static void promise25ByWays() {
        edge.says("BY WAYS, if who leaves then can be there by then with one WAY or more, and on foot between");
        for (int minutes = 11; minutes <= 13; minutes++) {
            TrainMile x = steady(4, 5);
            x.race();
            x.least(4);
            x.way(103, minutes, 0, 0);
            edge.due("20 minutes; 4, " + minutes + " and 4", x.gap(0, 0, 4), minutes <= 12 ? 1 : 0);
        }
        for (int first = 7; first <= 9; first++) {
            TrainMile x = steady(4, 5);
            x.race();
            x.way(104, 12, first, 99);
            edge.due("20 minutes; at 1 by 3, a TRAIN at " + first + " for 12", x.gap(0, 0, 4), first <= 8 ? 1 : 0);
        }
        TrainMile x = steady(4, 5);
        x.mat(2, true);
        x.going(0, 0, 0, 2);
        x.race();
        x.way(204, 1, 9, 3);
        x.way(204, 9, 11, 99);
        edge.due("from 12 on: the TRAIN at 12 takes 1", x.gap(0, 1, 4), 1);
        edge.due("the GAP ahead has no WAY", x.gap(0, 0, 4), 0);
        edge.due("its minutes", x.gap(0, 1, 2), 10);
        edge.due("ON FOOT, too", x.gap(0, 1, 3), 1);
    }

    private static void promise25ByWaysAtLeastOne() {
        edge.says("with one WAY or more");
        TrainMile x = steady(4, 30);
        x.race();
        edge.due("without WAYS", x.gap(0, 0, 4), 0);
        x.mat(2, true);
        x.race();
        x.way(3, 1, 0, 0);
        x.way(104, 1, 0, 0);
        edge.due("a WAY that goes beyond it", x.gap(0, 0, 4), 0);
        edge.due("a WAY that begins ahead of it", x.gap(0, 1, 4), 0);
        x.way(1, 57, 0, 0);
        edge.due("one that leaves 3 for the other PIECE", x.gap(0, 0, 4), 1);
        x.least(4);
        edge.due("LEAST 4: it is too slow", x.gap(0, 0, 4), 0);
        TrainMile y = steady(12, 2);
        y.race();
        y.least(30);
        for (int i = 0; i < 12; i++) {
            edge.due("with " + i + " WAYS of twelve", y.gap(0, 0, 4), 0);
            y.way(100 * i + i + 1, 2, 0, 0);
        }
        edge.due("with all twelve, just by then", y.gap(0, 0, 4), 1);
    }

    private static void promise25BelowZero() {
        edge.says("GAP i (0, 1, ..) of a SHOE: 0 MARK from, 1 MARK to, 2 minutes");
        TrainMile x = new TrainMile();
        x.runner(30, 99);
        x.runner(1, 0);
        x.going(5, 0, 400, 1);
        x.way(4, 1, 0, 0);
        x.race();
        int[] due = {0, 4, 4 - 99, 0, 0};
        for (int what = 0; what < 5; what++) {
            edge.due("on one who is there ahead of it: what " + what, x.gap(0, 0, what), due[what]);
        }
    }

    private static void promise26Refused() {
        edge.says("COMPANY within e (0 .. 30)");
        edge.in(Worlds::busy);
        edge.spans("company(%d, 0)", (x, v) -> x.company(v, 0), 0, 30);
        edge.spans("company(%d, 1)", (x, v) -> x.company(v, 1), 0, 30);
        edge.spans("company(0, %d)", (x, v) -> x.company(0, v), 0, 1);
        edge.in(Worlds::fresh);
        edge.takes("nobody: how many", x -> x.company(30, 0), 0);
        edge.takes("nobody: bits", x -> x.company(30, 1), 0);
    }

    private static void promise26Apart() {
        edge.says("and at each of these e minutes or fewer apart");
        for (int apart : new int[] {0, 1, 2, 29, 30, 31}) {
            for (int swap = 0; swap < 2; swap++) {
                TrainMile x = new TrainMile();
                x.runner(5, swap * apart);
                x.runner(5, apart - swap * apart);
                x.race();
                for (int e : new int[] {0, 1, 2, 28, 29, 30}) {
                    String is = apart + " apart, within " + e;
                    edge.due(is, x.company(e, 0), apart <= e ? 1 : 0);
                    edge.due(is, x.company(e, 1), apart <= e ? 3 : 0);
                }
            }
        }
        edge.says("at each of these");
        TrainMile x = steady(4, 5, 5);
        Edge.allMats(x);
        x.going(0, 1, 300, 3);
        x.race();
        edge.due("3 apart at the last one alone", x.company(2, 0), 0);
        edge.due("3 apart at the last one alone", x.company(3, 0), 1);
    }

    private static void promise26TwoMarks() {
        edge.says("two SHOES that are HEARD at two MARKS or more both");
        TrainMile x = steady(4, 5, 5);
        edge.due("HEARD nowhere", x.company(30, 0), 0);
        x.race();
        edge.due("at START at minute 0, and at GOAL", x.company(0, 0), 1);
        x.going(7, 1, 400, 0);
        x.race();
        edge.due("at START alone both", x.company(30, 0), 0);
        x.mat(2, true);
        x.race();
        edge.due("at START and 2", x.company(0, 0), 1);
        x.going(7, 0, 0, 0);
        x.race();
        edge.due("at 2 alone both", x.company(30, 0), 0);
        x.mat(3, true);
        x.race();
        edge.due("at 2 and 3", x.company(0, 1), 3);
        x.going(7, 0, 200, 0);
        x.going(7, 1, 300, 0);
        x.race();
        edge.due("at no MARK both", x.company(30, 0), 0);
    }

    private static void promise26All() {
        edge.says("How many two SHOES are in COMPANY within e; bits: the SHOES that are in some");
        TrainMile x = new TrainMile();
        for (int r = 0; r < 12; r++) {
            x.runner(5, 3 * r);
        }
        x.race();
        edge.due("none", x.company(2, 0), 0);
        edge.due("none", x.company(2, 1), 0);
        edge.due("each with the next", x.company(3, 0), 11);
        edge.due("all twelve", x.company(3, 1), 4095);
        edge.due("30 apart are ten of them", x.company(30, 0), 65);
        TrainMile y = new TrainMile();
        for (int r = 0; r < 12; r++) {
            y.runner(5, r == 11 ? 9 : r == 0 ? 9 : 40 + r);
        }
        y.race();
        edge.due("the first and the last", y.company(0, 0), 1);
        edge.due("the first and the last", y.company(0, 1), 1 | 1 << 11);
    }

    private static void promise27Refused() {
        edge.says("MISSES of a MARK: 0 how many, 1 of how many. BEYOND (START, GOAL, too)");
        edge.in(Worlds::busy);
        edge.spans("misses(%d, 0)", (x, v) -> x.misses(v, 0), 1, 7);
        edge.spans("misses(%d, 1)", (x, v) -> x.misses(v, 1), 1, 7);
        edge.spans("misses(4, %d)", (x, v) -> x.misses(4, v), 0, 1);
        edge.in(Worlds::fresh);
        edge.spans("misses(%d, 0)", (x, v) -> x.misses(v, 0), 1, 3);
        edge.takes("nobody", x -> x.misses(1, 1), 0);
    }

    private static void promise27AheadAndBehind() {
        edge.says("of SHOES that are HEARD ahead of it and behind it how many aren't there");
        TrainMile x = steady(4, 1, 2, 3, 4, 5, 6, 7, 8, 9, 10, 11, 12);
        x.race();
        for (int mark = 1; mark < 4; mark++) {
            edge.due("no MAT: how many", x.misses(mark, 0), 12);
            edge.due("no MAT: of how many", x.misses(mark, 1), 12);
        }
        Edge.allMats(x);
        x.race();
        edge.due("all are HEARD there", x.misses(1, 0), 0);
        edge.due("of all", x.misses(1, 1), 12);
        x.going(7, 11, 100, 0);
        x.going(7, 0, 300, 0);
        x.race();
        edge.due("the last one isn't", x.misses(1, 0), 1);
        edge.due("the first one isn't", x.misses(3, 0), 1);
        edge.due("of all", x.misses(3, 1), 12);
        x.going(7, 11, 0, 0);
        x.going(7, 0, 400, 0);
        x.race();
        edge.due("not HEARD ahead of it", x.misses(1, 0), 0);
        edge.due("of the others", x.misses(1, 1), 11);
        edge.due("not HEARD behind it", x.misses(3, 0), 0);
        edge.due("of the others", x.misses(3, 1), 11);
        edge.due("MARK 2: 11 isn't HEARD ahead, 0 not behind", x.misses(2, 1), 10);
    }

    private static void row(TrainMile x, int sheet, int bits, int... numbers) {
        x.sheet(sheet, bits, numbers.length);
        for (int i = 0; i < numbers.length; i++) {
            x.put(sheet, i, numbers[i]);
        }
    }

    private static void broken(String what, long place, long broken, long whole, int... numbers) {
        TrainMile x = new TrainMile();
        row(x, 3, 32, numbers);
        edge.due(what + ": its place", x.parts(3, 0), place);
        edge.due(what + ": the least sum", x.parts(3, 1), broken);
        edge.due(what + ": in one", x.parts(3, 2), whole);
    }

    private static void promise28Refused() {
        edge.says("BEYOND: no such SHEET, what. NONE: it is missing. STATE: it has fewer than two numbers");
        edge.in(Worlds::busy);
        edge.takesEach("parts(%d, 0)", (x, v) -> x.parts(v, 0), 0, 1, 2);
        edge.refusesEach("parts(%d, 0)", (x, v) -> x.parts(v, 0), -1, 4, Integer.MIN_VALUE, Integer.MAX_VALUE);
        edge.spans("parts(0, %d)", (x, v) -> x.parts(0, v), 0, 2);
        for (int what = 0; what < 3; what++) {
            int w = what;
            edge.in(Worlds::busy);
            edge.refuses("SHEET 3 is missing", x -> x.parts(3, w), Check.NONE);
            for (int n = 0; n < 2; n++) {
                int size = n;
                edge.in(() -> {
                    TrainMile x = Worlds.busy();
                    x.sheet(3, 8, size);
                    return x;
                });
                edge.refuses(n + " numbers", x -> x.parts(3, w), Check.STATE);
            }
        }
        edge.says("Each act tells its findings in the order in which they are asked");
        edge.refuses("BEYOND ahead of STATE", x -> x.parts(3, 3), Check.BEYOND);
        edge.refuses("BEYOND ahead of STATE", x -> x.parts(3, -1), Check.BEYOND);
        edge.in(Worlds::busy);
        edge.refuses("BEYOND ahead of NONE", x -> x.parts(3, 3), Check.BEYOND);
        edge.says("(in longs, too)");
        edge.due("BEYOND", new TrainMile().parts(4, 0), -1000001L);
        edge.due("NONE", new TrainMile().parts(0, 0), -1000002L);
    }

    private static void promise28LeastAndMostNumbers() {
        edge.says("the place k (1 and more) that parts it");
        broken("two numbers", 1, 0, 4, 5, 9);
        broken("three, the first apart", 1, 0, 4, 5, 9, 9);
        broken("three, the last apart", 2, 0, 4, 5, 5, 9);
        int[] numbers = new int[24];
        for (int k = 1; k < 24; k++) {
            for (int i = 0; i < 24; i++) {
                numbers[i] = i < k ? 7 : 3;
            }
            broken("24 of which " + k + " are ahead", k, 0, 4L * Math.min(k, 24 - k), numbers);
        }
    }

    private static void promise28OfSeveralTheFirst() {
        edge.says("is least; of several the first");
        broken("two alike", 1, 0, 0, 5, 5);
        broken("24 alike", 1, 0, 0, new int[24]);
        broken("at 1 and at 2", 1, 1, 2, 1, 2, 3);
        broken("at 2 and at 3", 2, 1, 4, 1, 1, 2, 3, 3);
        broken("at every place", 1, 8, 8, 1, 1, 5, 5, 1, 1);
    }

    private static void promise28Sums() {
        edge.says("the sum of how far each is off the middle one of its part");
        long most = 4294967295L;
        int least = Integer.MIN_VALUE;
        int greatest = Integer.MAX_VALUE;
        broken("least and greatest", 1, 0, most, least, greatest);
        broken("greatest and least", 1, 0, most, greatest, least);
        int[] numbers = new int[24];
        for (int i = 0; i < 24; i++) {
            numbers[i] = i % 2 == 0 ? least : greatest;
        }
        broken("24 in turn", 1, 11 * most, 12 * most, numbers);
        for (int i = 0; i < 24; i++) {
            numbers[i] = i < 12 ? greatest : least;
        }
        broken("12 and 12", 12, 0, 12 * most, numbers);
    }

    private static void promise28MiddleOnes() {
        edge.says("(of an even number the lesser of both middle ones)");
        broken("1 3 8 10 in one: 2 and 5 and 7 off 3", 1, 7, 14, 10, 1, 8, 3);
        broken("in no order", 3, 2 + 2, 2 + 2 + 3 + 3 + 5, 9, 11, 9, 4, 6, 4);
    }

    private static void promise29Refused() {
        edge.says("What the TEXT tells of whether a SHOE is ODD");
        edge.in(Worlds::busy);
        edge.spans("odd(%d)", TrainMile::odd, 0, 2);
        edge.in(Worlds::full);
        edge.spans("odd(%d)", TrainMile::odd, 0, 11);
        edge.in(Worlds::fresh);
        edge.refuses("odd(0)", x -> x.odd(0), Check.BEYOND);
        edge.says("FINDINGS are answers below -1000000");
        for (int k = 0; k <= 6; k++) {
            TrainMile x = new TrainMile();
            x.runner(5, 0);
            Check.text(x, 1, "0-1000*1000-" + k);
            edge.due("a TEXT that tells such a number", x.odd(0), -1000000 - k);
            for (int f = 1; f <= 5; f++) {
                edge.due("isn't found: found(" + f + ")", x.found(f), 0);
            }
        }
    }

    private static void promise29Without() {
        edge.says("Without: 1, if b isn't -1 and a is above b, else 0");
        int[][] due = {{2, 2, 0}, {3, 2, 1}, {2, 3, 0}, {50, 50, 0}, {51, 50, 1}, {50, 51, 0}, {100, 2, 1}};
        for (int[] d : due) {
            TrainMile x = steady(4, 1);
            x.mat(2, true);
            // The first PIECE of each half takes a minute, the second one the rest.
            Check.text(x, 0, "(b=1)*" + (d[0] - 1) + "+(b=3)*" + (d[1] - 1));
            x.race();
            edge.due("a", x.gap(0, 0, 2), d[0]);
            edge.due("b", x.gap(0, 1, 2), d[1]);
            edge.due("a " + d[0] + ", b " + d[1], x.odd(0), d[2]);
        }
        TrainMile x = steady(4, 9, 5);
        x.mat(2, true);
        x.going(6, 0, 204, 1);
        x.race();
        edge.due("18 and 10", x.odd(0), 1);
        x.going(7, 0, 400, 0);
        x.race();
        edge.due("b is -1", x.odd(0), 0);
        x.forget(1);
        x.going(7, 0, 0, 0);
        x.race();
        edge.due("a is -1", x.odd(0), 0);
        edge.due("ahead of THE RACE both are", steady(4, 5).odd(0), 0);
    }

    private static void promise29HalfWay() {
        edge.says("a from START to MARK n / 2 in minutes");
        for (int n = 4; n <= 24; n++) {
            TrainMile x = steady(n, 5);
            Edge.allMats(x);
            x.race();
            Check.text(x, 1, "a*1000+b");
            edge.due(n + " PIECES", x.odd(0), n / 2 * 5000 + (n - n / 2) * 5);
        }
    }

    private static void names(String what, TrainMile x, int shoe, int... due) {
        for (int i = 0; i < due.length; i++) {
            String name = String.valueOf((char) ('a' + i));
            Check.text(x, 1, name);
            edge.due(what + ": " + name, x.odd(shoe), due[i]);
        }
    }

    private static void promise29MinusOne() {
        edge.says("(-1: it isn't HEARD at both)");
        TrainMile x = steady(5, 5);
        names("ahead of THE RACE", x, 0, -1, -1, 2, -1, 0, 5);
        x.mat(2, true);
        x.race();
        names("from minute 0 on", x, 0, 10, 15, 0, 25, 0, 5);
        x.going(7, 0, 0, 0);
        x.race();
        names("not at START", x, 0, -1, 15, 1, -1, 0, 5);
        x.forget(0);
        x.going(7, 0, 200, 0);
        x.race();
        names("not half way", x, 0, -1, -1, 1, 25, 0, 5);
        x.forget(0);
        x.going(7, 0, 500, 0);
        x.race();
        names("not at GOAL", x, 0, 10, -1, 1, -1, 0, 5);
        x.going(7, 0, 0, 0);
        x.going(7, 0, 200, 0);
        x.race();
        names("nowhere", x, 0, -1, -1, 3, -1, 0, 5);
        edge.says("All quotients are cut");
        TrainMile y = new TrainMile();
        y.runner(30, 50);
        y.runner(1, 0);
        y.mat(2, true);
        y.going(5, 0, 200, 1);
        y.race();
        names("on one who was there ahead", y, 0, 2 - 50, 2, 0, 4 - 50, 0, 30);
    }

    private static void promise29MatsThatDidNotHear() {
        edge.says("c MATS that did not hear it");
        TrainMile x = steady(24, 1);
        Edge.allMats(x);
        Check.text(x, 1, "c");
        edge.due("ahead of THE RACE", x.odd(0), 25);
        x.race();
        edge.due("all did, at START at minute 0, too", x.odd(0), 0);
        x.way(24, 1, 0, 0);
        x.going(3, 0, 0, 0);
        x.race();
        edge.due("all between START and GOAL did not", x.odd(0), 23);
        x.going(7, 0, 0, 0);
        x.going(7, 0, 2400, 0);
        x.race();
        edge.due("none did", x.odd(0), 25);
    }

    private static void promise29CompanyWithinOne() {
        edge.says("e how many other SHOES are in its COMPANY (4) within 1");
        TrainMile x = new TrainMile();
        int[] begins = {10, 10, 11, 12, 9, 8, 10, 10, 10, 10, 10, 10};
        for (int b : begins) {
            x.runner(5, b);
        }
        Check.text(x, 1, "e");
        edge.due("ahead of THE RACE", x.odd(0), 0);
        x.race();
        int[] due = {9, 9, 9, 1, 9, 1, 9, 9, 9, 9, 9, 9};
        for (int r = 0; r < 12; r++) {
            edge.due("e of SHOE " + r, x.odd(r), due[r]);
        }
    }

    private static void promise30Judge() {
        edge.says("0 ODD ones whose RUNNER is OFF, 1 ODD ones that aren't, 2 those OFF that aren't ODD, 3 all others");
        edge.in(Worlds::busy);
        edge.spans("judge(%d)", TrainMile::judge, 0, 3);
        edge.in(Worlds::fresh);
        for (int what = 0; what < 4; what++) {
            int w = what;
            edge.takes("nobody", x -> x.judge(w), 0);
        }
        TrainMile x = steady(4, 1, 2, 3, 4, 5, 6, 7, 8, 9, 10, 11, 12);
        x.way(4, 1, 0, 0);
        x.going(3, 0, 0, 0);
        x.going(3, 11, 0, 0);
        x.race();
        edge.says("what is not 0 being true");
        Check.text(x, 1, "(f=12)*(0-1)+(f=2)*2");
        edge.due("12 is ODD and OFF", x.judge(0), 1);
        edge.due("2 is ODD", x.judge(1), 1);
        edge.due("1 is OFF", x.judge(2), 1);
        edge.due("nine others", x.judge(3), 9);
        Check.text(x, 1, "1");
        edge.due("all are ODD", x.judge(0) * 100 + x.judge(1), 210);
        edge.due("nobody isn't", x.judge(2) + x.judge(3), 0);
    }

    private static void promise31Refused() {
        edge.says("BEYOND: no such SHOE, set below 0 or with others");
        edge.in(() -> {
            TrainMile x = steady(4, 5, 6, 7);
            x.race();
            return x;
        });
        edge.spans("place(%d, 0)", (x, v) -> x.place(v, 0), 0, 2);
        edge.takesEach("place(0, %d)", (x, v) -> x.place(0, v), 0, 2, 4, 6);
        edge.refusesEach("place(0, %d)", (x, v) -> x.place(0, v),
                -1, -2, 8, 9, 16, 8192, 1 << 30, Integer.MIN_VALUE, Integer.MAX_VALUE);
        edge.in(() -> {
            TrainMile x = Worlds.full();
            x.race();
            return x;
        });
        edge.spans("place(%d, 0)", (x, v) -> x.place(v, 0), 0, 11);
        edge.takesEach("place(11, %d)", (x, v) -> x.place(11, v), 0, 1, 2047);
        edge.takesEach("place(0, %d)", (x, v) -> x.place(0, v), 4094, 2048);
        edge.refusesEach("place(0, %d)", (x, v) -> x.place(0, v), 4096, 8190, -1, Integer.MIN_VALUE);
        edge.in(Worlds::fresh);
        edge.refuses("nobody", x -> x.place(0, 0), Check.BEYOND);
    }

    private static void promise31State() {
        edge.says("STATE: it is struck out, or isn't HEARD at GOAL");
        edge.in(() -> {
            TrainMile x = steady(4, 5, 6, 7);
            x.going(7, 1, 400, 0);
            x.race();
            return x;
        });
        edge.refuses("struck out", x -> x.place(0, 1), Check.STATE);
        edge.refuses("struck out, all", x -> x.place(2, 7), Check.STATE);
        edge.refuses("not HEARD at GOAL", x -> x.place(1, 0), Check.STATE);
        edge.refuses("neither", x -> x.place(1, 2), Check.STATE);
        edge.takes("the others struck out", x -> x.place(2, 3), 1);
        edge.says("Each act tells its findings in the order in which they are asked");
        edge.refuses("BEYOND ahead of STATE", x -> x.place(1, 8), Check.BEYOND);
        edge.refuses("BEYOND ahead of STATE", x -> x.place(0, 9), Check.BEYOND);
        edge.in(() -> steady(4, 5));
        edge.refuses("ahead of THE RACE", x -> x.place(0, 0), Check.STATE);
        edge.in(() -> {
            TrainMile x = steady(4, 5);
            x.race();
            x.runner(5, 0);
            return x;
        });
        edge.refuses("a RUNNER behind THE RACE", x -> x.place(1, 0), Check.STATE);
        edge.takes("the one ahead", x -> x.place(0, 0), 1);
    }

    private static void promise31Fewer() {
        edge.says("1, and how many of these have fewer minutes from START");
        TrainMile x = steady(4, 5, 5, 5, 6, 6, 7, 8, 8, 8, 8, 8, 9);
        x.race();
        int[] due = {1, 1, 1, 4, 4, 6, 7, 7, 7, 7, 7, 12};
        for (int r = 0; r < 12; r++) {
            edge.due("place(" + r + ", 0)", x.place(r, 0), due[r]);
        }
        edge.due("all but the last struck out", x.place(11, 2047), 1);
        edge.due("of two alike one struck out", x.place(4, 1 << 3), 4);
        edge.due("one that isn't better struck out", x.place(0, 1 << 11), 1);
    }

    private static void promise31FromZero() {
        edge.says("(as HEARD; who isn't HEARD there has them from 0)");
        TrainMile x = new TrainMile();
        x.runner(5, 10);
        x.runner(7, 0);
        x.runner(8, 0);
        x.race();
        edge.due("20 of 30", x.place(0, 0), 1);
        x.going(7, 0, 0, 0);
        x.race();
        edge.due("30 from 0", x.place(0, 0), 2);
        x.going(7, 1, 0, 0);
        x.race();
        edge.due("28 from 0 all the same", x.place(1, 0), 1);
        x.forget(0);
        x.going(5, 0, 400, 2);
        x.race();
        edge.due("32 less 10, as HEARD", x.place(0, 0), 1);
        x.forget(0);
        x.going(5, 0, 100, 1);
        x.race();
        edge.due("28 less 10 is fewest", x.place(0, 0), 1);
        edge.due("28 less 0", x.place(1, 0), 2);
        TrainMile y = new TrainMile();
        y.runner(7, 0);
        y.runner(7, 1);
        y.runner(7, 0);
        y.going(7, 2, 0, 0);
        y.race();
        for (int r = 0; r < 3; r++) {
            edge.due("28 from 0, 29 from 1, 28 from none: all alike", y.place(r, 0), 1);
        }
    }

    private static void promise32Up() {
        edge.says("How many SHOES have a lesser PLACE with those of a set struck out than with nobody");
        edge.in(Worlds::busy);
        edge.spans("up(%d)", TrainMile::up, 0, 7);
        edge.in(Worlds::full);
        edge.spans("up(%d)", TrainMile::up, 0, 4095);
        edge.refusesEach("up(%d)", TrainMile::up, 4097, 8191, 1 << 12, 1 << 30);
        edge.in(Worlds::fresh);
        edge.spans("up(%d)", TrainMile::up, 0, 0);
        TrainMile x = steady(4, 12, 11, 10, 9, 8, 7, 6, 5, 4, 3, 2, 1);
        edge.due("nobody is HEARD", x.up(1 << 11), 0);
        x.race();
        edge.due("nobody struck out", x.up(0), 0);
        edge.due("the best struck out: all others", x.up(1 << 11), 11);
        edge.due("the worst struck out", x.up(1), 0);
        edge.due("all but the worst struck out", x.up(4094), 1);
        edge.due("all struck out", x.up(4095), 0);
        edge.due("the second worst struck out", x.up(2), 1);
        x.going(7, 11, 400, 0);
        x.race();
        edge.due("one that isn't HEARD at GOAL struck out", x.up(1 << 11), 0);
        TrainMile y = steady(4, 1, 2, 3, 4, 5, 6, 7, 8, 9, 10, 11, 12);
        y.race();
        edge.due("the first one is the best: all others", y.up(1), 11);
        edge.due("the first two: the other ten", y.up(3), 10);
        edge.due("the second: those behind it", y.up(2), 10);
    }
}
