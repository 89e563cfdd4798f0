/** The boundary cases of promises 10 to 15: runners, goings, draws. */
public final class RunnersEdgesTest {
    private static final Check check = new Check("RunnersEdgesTest");
    private static final Edge edge = new Edge(check);

    private static final int GOING = 0;
    private static final int RUN = 1;
    private static final int WALKED = 2;
    private static final int SHORT = 3;
    private static final int RIDDEN = 4;
    private static final int CARRIED = 5;
    private static final int SWAPPED = 6;
    private static final int MISSED = 7;

    public static void main(String[] args) {
        promise10Runner();
        promise10RunnersFull();
        promise10NewOnesHaveNothing();
        promise11Kinds();
        promise11FromBelowGoal();
        promise11FromGoalToo();
        promise11ToAboveFrom();
        promise11ToIsAnything();
        promise11EndsOfLongestRoad();
        promise11Minutes();
        promise11WayNumbers();
        promise11WaysOfTheOtherSort();
        promise11RunnerNumbers();
        promise11MissedAnyNumber();
        promise11Full();
        promise12Forget();
        promise12NumbersGoOn();
        promise13As();
        promise14GoingIs();
        promise15Draw();
        promise15DrawsGoRound();
        check.end();
    }

    private static void promise10Runner() {
        edge.says("have a STRENGTH (1 .. 30) and begin at a minute (0 .. 99)");
        edge.in(Worlds::busy);
        edge.spans("runner(%d, 0)", (x, v) -> x.runner(v, 0), 1, 30);
        edge.spans("runner(5, %d)", (x, v) -> x.runner(5, v), 0, 99);
        edge.takes("the number", x -> x.runner(30, 99), 3);
        edge.in(Worlds::fresh);
        edge.takes("the first number", x -> x.runner(1, 0), 0);
        for (int strength = 1; strength <= 30; strength += 29) {
            for (int begins = 0; begins <= 99; begins += 99) {
                TrainMile x = new TrainMile();
                x.runner(strength, begins);
                edge.due("begins", x.would(0, 0), begins);
                edge.due("its STRENGTH", x.pace(0, 0, 0, 0, 0), strength);
                edge.due("at GOAL", x.would(0, 4), begins + 4 * strength);
            }
        }
    }

    private static void promise10RunnersFull() {
        edge.says("RUNNERS 0, 1, .. (at most 12)");
        TrainMile x = new TrainMile();
        for (int i = 0; i < 12; i++) {
            edge.due("RUNNER " + i, x.runner(i + 1, i), i);
            edge.due("told(2)", x.told(2), i + 1);
        }
        edge.due("one more", x.runner(5, 5), Check.FULL);
        edge.due("there is no RUNNER 12", x.would(12, 0), Check.BEYOND);
        edge.due("RUNNER 11 stays", x.would(11, 4), 11 + 4 * 12);
        x.road(24);
        edge.due("road() leaves no room", x.runner(5, 5), Check.FULL);
        edge.in(Worlds::full);
        edge.refuses("runner(1, 0)", y -> y.runner(1, 0), Check.FULL);
        edge.refuses("runner(30, 99)", y -> y.runner(30, 99), Check.FULL);
        edge.says("Each act tells its findings in the order in which they are asked");
        edge.refuses("BEYOND ahead of FULL", y -> y.runner(0, 0), Check.BEYOND);
        edge.refuses("BEYOND ahead of FULL", y -> y.runner(31, 0), Check.BEYOND);
        edge.refuses("BEYOND ahead of FULL", y -> y.runner(1, -1), Check.BEYOND);
        edge.refuses("BEYOND ahead of FULL", y -> y.runner(1, 100), Check.BEYOND);
    }

    private static void promise10NewOnesHaveNothing() {
        edge.says("A RUNNER: the number");
        TrainMile x = Worlds.busy();
        edge.due("runner(7, 7)", x.runner(7, 7), 3);
        edge.due("it isn't OFF", x.off(3), 0);
        edge.due("it has no ENTRIES", x.same(3, 1), 0);
        for (int mark = 0; mark <= 8; mark++) {
            edge.due("it isn't HEARD at " + mark, x.heard(3, mark), -1);
        }
        edge.due("it has no GOINGS", x.would(3, 0), 7);
        edge.due("a set may have it", x.up(8), 0);
    }

    private static void promise11Kinds() {
        edge.says("of a KIND each: 0 GOING");
        edge.in(Worlds::busy);
        edge.spans("going(%d, 0, 104, 0)", (x, v) -> x.going(v, 0, 104, v == RIDDEN ? 1 : 0), 0, 7);
        edge.spans("going(0, %d, 100, 0)", (x, v) -> x.going(GOING, v, 100, 0), 0, 2);
        edge.spans("going(7, %d, 100, 0)", (x, v) -> x.going(MISSED, v, 100, 0), 0, 2);
        edge.takes("its number", x -> x.going(GOING, 0, 0, 0), 5);
        edge.in(Worlds::fresh);
        edge.refuses("without RUNNERS", x -> x.going(GOING, 0, 0, 0), Check.BEYOND);
    }

    /** WAYS of FOOT from 0, 1, 7 to GOAL: 0, 2, 4; TRAINS likewise: 1, 3, 5. Two RUNNERS on 8 PIECES. */
    private static TrainMile waysAtEnds() {
        TrainMile x = new TrainMile();
        x.road(8);
        x.runner(5, 0);
        x.runner(7, 0);
        for (int from : new int[] {0, 1, 7}) {
            x.way(100 * from + 8, 3, 0, 0);
            x.way(100 * from + 8, 3, 0, 5);
        }
        return x;
    }

    private static int wayFrom(int kind, int from) {
        int foot = from == 0 ? 0 : from == 1 ? 2 : 4;
        return kind == SHORT ? foot : kind == RIDDEN ? foot + 1 : 0;
    }

    private static void promise11FromBelowGoal() {
        edge.says("from is a MARK, below GOAL but for CARRIED, MISSED");
        edge.in(RunnersEdgesTest::waysAtEnds);
        for (int kind : new int[] {GOING, RUN, WALKED, SHORT, RIDDEN, SWAPPED}) {
            String call = "going(" + kind + ", 0, %d, ..)";
            for (int from : new int[] {0, 1, 7}) {
                int number = wayFrom(kind, from);
                edge.takesEach(call, (x, v) -> x.going(kind, 0, v, number), 100 * from + 8);
            }
            int number = wayFrom(kind, 7);
            edge.refusesEach(call, (x, v) -> x.going(kind, 0, v, number),
                    800, 808, 809, 899, 900, 910, 10008, -1, -92, -100, -708, Integer.MIN_VALUE, Integer.MAX_VALUE);
        }
    }

    private static void promise11FromGoalToo() {
        edge.says("from is a MARK, below GOAL but for CARRIED, MISSED");
        edge.in(RunnersEdgesTest::waysAtEnds);
        for (int kind : new int[] {CARRIED, MISSED}) {
            String call = "going(" + kind + ", 0, %d, 1)";
            edge.takesEach(call, (x, v) -> x.going(kind, 0, v, 1), 0, 99, 100, 700, 800, 808, 899);
            edge.refusesEach(call, (x, v) -> x.going(kind, 0, v, 1),
                    900, 909, 999, 10000, -1, -100, -800, Integer.MIN_VALUE, Integer.MAX_VALUE);
        }
    }

    private static void promise11ToAboveFrom() {
        edge.says("to is a MARK above it, where it is looked at");
        edge.in(RunnersEdgesTest::waysAtEnds);
        for (int kind : new int[] {RUN, WALKED, SWAPPED}) {
            String call = "going(" + kind + ", 0, %d, 1)";
            edge.takesEach(call, (x, v) -> x.going(kind, 0, v, 1), 1, 8, 304, 308, 708);
            edge.refusesEach(call, (x, v) -> x.going(kind, 0, v, 1),
                    0, 9, 99, 300, 302, 303, 309, 399, 700, 707, 709);
        }
    }

    private static void promise11ToIsAnything() {
        edge.says("where it is looked at, else anything 0 .. 99");
        edge.in(RunnersEdgesTest::waysAtEnds);
        for (int kind : new int[] {GOING, SHORT, RIDDEN, CARRIED, MISSED}) {
            int number = wayFrom(kind, 1);
            for (int to : new int[] {0, 1, 8, 9, 99}) {
                edge.takes("going(" + kind + ", 0, " + (100 + to) + ", ..), then its MARK to as told",
                        x -> x.goingIs(x.going(kind, 0, 100 + to, number), 3), to);
            }
        }
    }

    private static void promise11EndsOfLongestRoad() {
        edge.says("ends: 100 times the MARK from, and that to");
        edge.in(() -> {
            TrainMile x = new TrainMile();
            x.road(24);
            x.runner(5, 0);
            x.way(2324, 5, 0, 0);
            return x;
        });
        edge.takesEach("going(1, 0, %d, 0)", (x, v) -> x.going(RUN, 0, v, 0), 1, 24, 2324);
        edge.refusesEach("going(1, 0, %d, 0)", (x, v) -> x.going(RUN, 0, v, 0), 25, 2323, 2325, 2424, 2425);
        edge.takes("SHORT from 23", x -> x.going(SHORT, 0, 2399, 0), 0);
        edge.refuses("SHORT from 22", x -> x.going(SHORT, 0, 2299, 0), Check.KIND);
        edge.takes("MISSED at GOAL", x -> x.going(MISSED, 0, 2499, 0), 0);
        edge.refuses("MISSED behind GOAL", x -> x.going(MISSED, 0, 2500, 0), Check.BEYOND);
        for (int from = 0; from <= 24; from++) {
            int mark = from;
            edge.takes("MARK from " + from, x -> x.goingIs(x.going(MISSED, 0, 100 * mark + 99, 0), 2), from);
        }
    }

    private static void promise11Minutes() {
        edge.in(Worlds::busy);
        edge.says("it stands there for number minutes, 0 .. 99");
        edge.spans("going(0, 0, 100, %d)", (x, v) -> x.going(GOING, 0, 100, v), 0, 99);
        edge.says("up to MARK to number minutes more for each PIECE, 0 .. 20");
        edge.spans("going(1, 0, 103, %d)", (x, v) -> x.going(RUN, 0, 103, v), 0, 20);
        edge.says("2 WALKED under RUN (likewise, and twice as long)");
        edge.spans("going(2, 0, 103, %d)", (x, v) -> x.going(WALKED, 0, 103, v), 0, 20);
    }

    private static void promise11WayNumbers() {
        edge.says("4 RIDDEN under SHORT (by a TRAIN likewise)");
        edge.in(() -> {
            TrainMile x = new TrainMile();
            x.runner(5, 0);
            for (int i = 0; i < 12; i++) {
                x.way(4, 5, 0, i / 6);
            }
            return x;
        });
        edge.takesEach("going(3, 0, 0, %d)", (x, v) -> x.going(SHORT, 0, 0, v), 0, 5);
        edge.takesEach("going(4, 0, 0, %d)", (x, v) -> x.going(RIDDEN, 0, 0, v), 6, 11);
        edge.refusesEach("going(3, 0, 0, %d)", (x, v) -> x.going(SHORT, 0, 0, v),
                -1, 12, Integer.MIN_VALUE, Integer.MAX_VALUE);
        edge.refusesEach("going(4, 0, 0, %d)", (x, v) -> x.going(RIDDEN, 0, 0, v),
                -1, 12, Integer.MIN_VALUE, Integer.MAX_VALUE);
        edge.in(() -> {
            TrainMile x = new TrainMile();
            x.runner(5, 0);
            return x;
        });
        edge.refuses("SHORT without WAYS", x -> x.going(SHORT, 0, 0, 0), Check.BEYOND);
        edge.refuses("RIDDEN without WAYS", x -> x.going(RIDDEN, 0, 0, 0), Check.BEYOND);
        edge.in(() -> {
            TrainMile x = Worlds.busy();
            x.road(8);
            return x;
        });
        edge.refuses("SHORT by a WAY that went with its ROAD", x -> x.going(SHORT, 0, 100, 0), Check.BEYOND);
    }

    private static void promise11WaysOfTheOtherSort() {
        edge.says("3 SHORT under GOING (by WAY number, of FOOT, that begins there");
        edge.in(Worlds::busy);
        edge.takes("SHORT by FOOT from there", x -> x.going(SHORT, 0, 100, 0), 5);
        edge.takes("RIDDEN by TRAIN from there", x -> x.going(RIDDEN, 0, 200, 1), 5);
        edge.says("KIND: WAY number is of the other sort, or begins elsewhere");
        edge.refuses("SHORT by TRAIN", x -> x.going(SHORT, 0, 200, 1), Check.KIND);
        edge.refuses("RIDDEN by FOOT", x -> x.going(RIDDEN, 0, 100, 0), Check.KIND);
        edge.refuses("SHORT from the MARK ahead", x -> x.going(SHORT, 0, 0, 0), Check.KIND);
        edge.refuses("SHORT from the MARK behind", x -> x.going(SHORT, 0, 200, 0), Check.KIND);
        edge.refuses("SHORT from the MARK to which it goes", x -> x.going(SHORT, 0, 300, 0), Check.KIND);
        edge.refuses("RIDDEN from the MARK ahead", x -> x.going(RIDDEN, 0, 100, 1), Check.KIND);
        edge.refuses("RIDDEN from the MARK behind", x -> x.going(RIDDEN, 0, 300, 1), Check.KIND);
        edge.says("Each act tells its findings in the order in which they are asked");
        edge.refuses("BEYOND ahead of KIND: runner", x -> x.going(SHORT, 3, 200, 1), Check.BEYOND);
        edge.refuses("BEYOND ahead of KIND: ends", x -> x.going(SHORT, 0, 800, 1), Check.BEYOND);
        edge.refuses("BEYOND ahead of KIND: number", x -> x.going(SHORT, 0, 200, 3), Check.BEYOND);
    }

    private static void promise11RunnerNumbers() {
        edge.says("the RUNNER's SHOE is on RUNNER number, who may be the same");
        edge.in(Worlds::busy);
        edge.spans("going(5, 1, 100, %d)", (x, v) -> x.going(CARRIED, 1, 100, v), 0, 2);
        edge.takes("the same", x -> x.going(CARRIED, 1, 100, 1), 5);
        edge.says("up to MARK to RUNNER number runs instead, fresh");
        edge.spans("going(6, 1, 103, %d)", (x, v) -> x.going(SWAPPED, 1, 103, v), 0, 2);
        edge.in(Worlds::full);
        edge.says("Each act tells its findings in the order in which they are asked");
        edge.refuses("CARRIED by RUNNER 11", x -> x.going(CARRIED, 1, 100, 11), Check.FULL);
        edge.refuses("CARRIED by RUNNER 12", x -> x.going(CARRIED, 1, 100, 12), Check.BEYOND);
        edge.refuses("SWAPPED for RUNNER 11", x -> x.going(SWAPPED, 1, 103, 11), Check.FULL);
        edge.refuses("SWAPPED for RUNNER 12", x -> x.going(SWAPPED, 1, 103, 12), Check.BEYOND);
    }

    private static void promise11MissedAnyNumber() {
        edge.says("to, number aren't looked at");
        edge.in(Worlds::busy);
        for (int number : new int[] {0, -1, 40, 100, Integer.MIN_VALUE, Integer.MAX_VALUE, Check.BEYOND}) {
            edge.takes("MISSED, its number as told", x -> x.goingIs(x.going(MISSED, 0, 199, number), 4), number);
            edge.takes("MISSED, its number as()", x -> x.as(x.going(MISSED, 0, 199, number), 1), number);
        }
    }

    private static void promise11Full() {
        edge.says("GOINGS 0, 1, .. (at most 40)");
        TrainMile x = new TrainMile();
        x.runner(5, 0);
        for (int i = 0; i < 40; i++) {
            edge.due("GOING " + i, x.going(GOING, 0, 0, i), i);
            edge.due("told(3)", x.told(3), i + 1);
        }
        edge.due("one more", x.going(GOING, 0, 0, 99), Check.FULL);
        edge.due("it isn't there", x.goingIs(40, 0), Check.BEYOND);
        edge.due("nor done", x.would(0, 1), 39 + 5);
        edge.due("forget(39)", x.forget(39), 1);
        edge.due("there is room for one", x.going(GOING, 0, 0, 99), 39);
        edge.due("and no more", x.going(GOING, 0, 0, 98), Check.FULL);
        edge.due("it is done", x.would(0, 1), 99 + 5);
        edge.in(Worlds::full);
        for (int kind : new int[] {GOING, RUN, WALKED, CARRIED, SWAPPED, MISSED}) {
            edge.refuses("one more of KIND " + kind, y -> y.going(kind, 0, 104, 0), Check.FULL);
        }
        edge.refuses("one more by FOOT", y -> y.going(SHORT, 0, 0, 0), Check.FULL);
        edge.refuses("one more by TRAIN", y -> y.going(RIDDEN, 0, 100, 1), Check.FULL);
        edge.says("Each act tells its findings in the order in which they are asked");
        edge.refuses("KIND ahead of FULL", y -> y.going(SHORT, 0, 100, 1), Check.KIND);
        edge.refuses("KIND ahead of FULL", y -> y.going(RIDDEN, 0, 0, 0), Check.KIND);
        edge.refuses("BEYOND ahead of FULL: kind", y -> y.going(8, 0, 104, 0), Check.BEYOND);
        edge.refuses("BEYOND ahead of FULL: runner", y -> y.going(GOING, 12, 104, 0), Check.BEYOND);
        edge.refuses("BEYOND ahead of FULL: ends", y -> y.going(RUN, 0, 101, 0), Check.BEYOND);
        edge.refuses("BEYOND ahead of FULL: number", y -> y.going(GOING, 0, 104, 100), Check.BEYOND);
    }

    private static void promise12Forget() {
        edge.says("BEYOND: n isn't 0 .. as many as there are");
        edge.in(Worlds::busy);
        edge.spans("forget(%d)", TrainMile::forget, 0, 5);
        for (int n = 0; n <= 5; n++) {
            int from = n;
            edge.takes("forget(" + n + "): how many", x -> x.forget(from), 5 - n);
            edge.takes("forget(" + n + "), then told(3)", x -> {
                x.forget(from);
                return x.told(3);
            }, n);
        }
        edge.in(Worlds::full);
        edge.spans("forget(%d)", TrainMile::forget, 0, 40);
        edge.takes("all", x -> x.forget(0), 40);
        edge.in(Worlds::fresh);
        edge.spans("forget(%d)", TrainMile::forget, 0, 0);
        edge.takes("none of none", x -> x.forget(0), 0);
    }

    private static void promise12NumbersGoOn() {
        edge.says("The GOINGS from number n on are forgotten");
        TrainMile x = new TrainMile();
        x.runner(5, 0);
        for (int i = 0; i < 40; i++) {
            x.going(GOING, 0, 100 * (i % 4), i);
        }
        edge.due("forget(20)", x.forget(20), 20);
        edge.due("19 is there", x.goingIs(19, 4), 19);
        edge.due("20 isn't", x.goingIs(20, 4), Check.BEYOND);
        edge.due("as(20, 0)", x.as(20, 0), Check.BEYOND);
        edge.due("voice(20, 0, 0)", x.voice(20, 0, 0), Check.BEYOND);
        edge.due("16 to 19 are done", x.would(0, 4), 4 * 5 + 16 + 17 + 18 + 19);
        edge.due("the next number", x.going(GOING, 0, 0, 50), 20);
        edge.due("forget(21)", x.forget(21), 0);
        edge.due("forget(22)", x.forget(22), Check.BEYOND);
    }

    private static void promise13As() {
        edge.says("A GOING as one of a kind (0 .. 7): its number as told");
        edge.in(Worlds::busy);
        edge.spans("as(%d, 0)", (x, v) -> x.as(v, 0), 0, 4);
        edge.refusesEach("as(0, %d)", (x, v) -> x.as(0, v), -1, 8, Integer.MIN_VALUE, Integer.MAX_VALUE);
        edge.takes("the first kind", x -> x.as(2, 0), 31);
        edge.takes("the last kind", x -> x.as(2, 7), 31);
        edge.says("KIND: it isn't of that kind, nor of one under it");
        edge.refuses("GOING as RUN", x -> x.as(0, 1), Check.KIND);
        edge.refuses("GOING as MISSED", x -> x.as(0, 7), Check.KIND);
        edge.refuses("RIDDEN as RUN", x -> x.as(1, 1), Check.KIND);
        edge.takes("RIDDEN as SHORT", x -> x.as(1, 3), 1);
        edge.takes("MISSED as RUN", x -> x.as(2, 1), 31);
        edge.refuses("MISSED as WALKED", x -> x.as(2, 2), Check.KIND);
        edge.refuses("SWAPPED as CARRIED", x -> x.as(3, 5), Check.KIND);
        edge.refuses("CARRIED as SWAPPED", x -> x.as(4, 6), Check.KIND);
        edge.says("Each act tells its findings in the order in which they are asked");
        edge.refuses("BEYOND ahead of KIND", x -> x.as(5, 7), Check.BEYOND);
        edge.refuses("BEYOND ahead of KIND", x -> x.as(0, 8), Check.BEYOND);
        edge.in(Worlds::full);
        edge.spans("as(%d, 0)", (x, v) -> x.as(v, 0), 0, 39);
        edge.in(Worlds::fresh);
        edge.refuses("as(0, 0)", x -> x.as(0, 0), Check.BEYOND);
    }

    private static void promise14GoingIs() {
        edge.says("Of a GOING: 0 KIND, 1 RUNNER, 2 MARK from, 3 MARK to (as told), 4 number");
        edge.in(Worlds::busy);
        edge.spans("goingIs(%d, 0)", (x, v) -> x.goingIs(v, 0), 0, 4);
        edge.spans("goingIs(0, %d)", (x, v) -> x.goingIs(0, v), 0, 4);
        edge.in(Worlds::full);
        edge.spans("goingIs(%d, 4)", (x, v) -> x.goingIs(v, 4), 0, 39);
        edge.takes("the last: KIND", x -> x.goingIs(39, 0), 1);
        edge.takes("the last: RUNNER", x -> x.goingIs(39, 1), 3);
        edge.takes("the last: MARK from", x -> x.goingIs(39, 2), 4);
        edge.takes("the last: MARK to", x -> x.goingIs(39, 3), 8);
        edge.takes("the last: number", x -> x.goingIs(39, 4), 19);
        edge.in(Worlds::fresh);
        edge.refuses("goingIs(0, 0)", x -> x.goingIs(0, 0), Check.BEYOND);
    }

    private static void promise15Draw() {
        edge.says("X becomes v (0 .. 65535): what it was");
        edge.in(Worlds::busy);
        edge.spans("draw(%d)", TrainMile::draw, 0, 65535);
        edge.in(Worlds::fresh);
        edge.takes("1 at first", x -> x.draw(65535), 1);
        edge.takes("the greatest", x -> {
            x.draw(65535);
            return x.draw(0);
        }, 65535);
        edge.takes("the least", x -> {
            x.draw(0);
            return x.told(4);
        }, 0);
    }

    private static void promise15DrawsGoRound() {
        edge.says("X becomes (X times 25173 and 13849) modulo 65536");
        int[][] due = {{0, 13849}, {1, 39022}, {65535, 54212}, {32768, 46617}, {52427, 60288}};
        for (int[] d : due) {
            TrainMile x = new TrainMile();
            x.runner(5, 0);
            x.draw(d[0]);
            x.race();
            edge.due("behind " + d[0], x.told(4), d[1]);
            edge.due("worked out in longs", d[1], (d[0] * 25173L + 13849) % 65536);
        }
        TrainMile x = new TrainMile();
        x.road(24);
        Edge.allMats(x);
        for (int i = 0; i < 12; i++) {
            x.runner(1, 0);
        }
        long drawn = 65535;
        x.draw(65535);
        for (int races = 0; races < 20; races++) {
            x.race();
            for (int i = 0; i < 12 * 24; i++) {
                drawn = (drawn * 25173 + 13849) % 65536;
            }
            edge.due("12 SHOES at 24 MATS each", x.told(4), drawn);
        }
    }
}
