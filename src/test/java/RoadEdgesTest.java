/** The boundary cases of promises 1 to 9: a new object, the road, ways, EARLIEST, THE FEWEST MATS. */
public final class RoadEdgesTest {
    private static final Check check = new Check("RoadEdgesTest");
    private static final Edge edge = new Edge(check);

    public static void main(String[] args) {
        promise1FourPiecesNothingMore();
        promise1ObjectsAreApart();
        promise2Pieces();
        promise2WithoutClimb();
        promise2MatsAtStartAndGoal();
        promise2NoWaysNoGoings();
        promise2NobodyIsHeardNorOff();
        promise2WhatStays();
        promise3Climb();
        promise3EachPieceHasItsOwn();
        promise4Heat();
        promise5Mat();
        promise5OtherwiseOrNot();
        promise6Deaf();
        promise6KeptWithoutMat();
        promise7WayEnds();
        promise7WayMinutes();
        promise7WayTrains();
        promise7WayFull();
        promise8EarliestRefused();
        promise8EarliestNone();
        promise8EarliestNotOnFoot();
        promise8EarliestTrainNotAhead();
        promise8EarliestGreatest();
        promise8EarliestWaysThatDontHelp();
        promise8EarliestTwelveWays();
        promise8EarliestAllIsFull();
        promise9FewestRefused();
        promise9FewestTwoBehind();
        promise9FewestStrictlyBetween();
        promise9FewestLesserFirst();
        promise9FewestLongest();
        promise9FewestAsWaysAreNow();
        check.end();
    }

    private static void promise1FourPiecesNothingMore() {
        edge.says("4 PIECES, nothing more; X 1");
        TrainMile x = new TrainMile();
        int[] told = {4, 0, 0, 0, 1, 0, 2, 0, 3, 0, 0};
        for (int what = 0; what < told.length; what++) {
            edge.due("told(" + what + ")", x.told(what), told[what]);
        }
        for (int k = 1; k <= 5; k++) {
            edge.due("found(" + k + ")", x.found(k), 0);
        }
        for (int piece = 0; piece < 4; piece++) {
            edge.due("climb(" + piece + ", 1)", x.climb(piece, 1), 0);
        }
        for (int mark = 0; mark <= 4; mark++) {
            edge.due("deaf(" + mark + ", 1)", x.deaf(mark, 1), 0);
        }
        for (int mark = 1; mark < 4; mark++) {
            edge.due("mat(" + mark + ", true)", x.mat(mark, true), 1);
        }
        edge.due("heat(1)", x.heat(1), 0);
        edge.due("way: the first", x.way(4, 1, 0, 0), 0);
        edge.due("runner: the first", x.runner(5, 0), 0);
        edge.due("going: the first", x.going(0, 0, 0, 0), 0);
        edge.due("entry: the first", x.entry(0, 0, 0, 1), 1);
        edge.due("feed: the first", x.feed(49, 1), 1);
        edge.due("pace without a TEXT", x.pace(0, 12, 0, 0, 0), 7);
        edge.due("odd without a TEXT", x.odd(0), 0);
        edge.due("image: the first", x.image(), 1);
        edge.in(Worlds::fresh);
        edge.refuses("climb(4, 0)", y -> y.climb(4, 0), Check.BEYOND);
        edge.refuses("would(0, 0)", y -> y.would(0, 0), Check.BEYOND);
        edge.refuses("heard(0, 0)", y -> y.heard(0, 0), Check.BEYOND);
        edge.refuses("goingIs(0, 0)", y -> y.goingIs(0, 0), Check.BEYOND);
        edge.refuses("voice(0, 0, 0)", y -> y.voice(0, 0, 0), Check.BEYOND);
        edge.refuses("trace(0)", y -> y.trace(0), Check.NONE);
        edge.refuses("restore()", TrainMile::restore, Check.NONE);
        for (int sheet = 0; sheet < 4; sheet++) {
            int s = sheet;
            edge.refuses("parts(" + s + ", 0)", y -> y.parts(s, 0), Check.NONE);
        }
    }

    private static void promise1ObjectsAreApart() {
        edge.says("4 PIECES, nothing more");
        Look ahead = Look.at(new TrainMile());
        TrainMile first = new TrainMile();
        Worlds.busy();
        Worlds.full();
        edge.holds("one object knows nothing of another", ahead.difference(Look.at(first)) == null);
        edge.holds("nor does one that is made later", ahead.difference(Look.at(new TrainMile())) == null);
    }

    private static void promise2Pieces() {
        edge.says("THE ROAD has PIECES 0 .. n - 1 (n 4 .. 24; 4 at first)");
        edge.in(Worlds::busy);
        edge.spans("road(%d)", TrainMile::road, 4, 24);
        edge.takes("road(4)", x -> x.road(4), 4);
        edge.takes("road(24)", x -> x.road(24), 24);
        edge.refusesEach("road(%d)", TrainMile::road, 0, -4, 4 + 65536);
        for (int n = 4; n <= 24; n += 20) {
            TrainMile x = new TrainMile();
            x.road(n);
            edge.due("told(0)", x.told(0), n);
            edge.due("the last PIECE", x.climb(n - 1, 1), 0);
            edge.due("no PIECE behind it", x.climb(n, 1), Check.BEYOND);
            edge.due("GOAL", x.deaf(n, 1), 0);
            edge.due("no MARK behind it", x.deaf(n + 1, 1), Check.BEYOND);
        }
    }

    private static void promise2WithoutClimb() {
        edge.says("THE ROAD has n PIECES without CLIMB");
        TrainMile x = new TrainMile();
        x.road(24);
        for (int piece = 0; piece < 24; piece++) {
            x.climb(piece, 9);
        }
        x.road(4);
        x.road(24);
        for (int piece = 0; piece < 24; piece++) {
            edge.due("climb(" + piece + ", 9)", x.climb(piece, 9), 0);
        }
        x.road(24);
        edge.due("as many PIECES as ahead: climb(23, 0)", x.climb(23, 0), 0);
    }

    private static void promise2MatsAtStartAndGoal() {
        edge.says("MATS are at MARKS; at START and GOAL always (alone at first)");
        TrainMile x = new TrainMile();
        x.road(24);
        Edge.allMats(x);
        edge.due("MATS everywhere", x.told(6), 25);
        x.road(8);
        edge.due("on a shorter road", x.told(6), 2);
        x.runner(1, 0);
        x.race();
        edge.due("at START", x.heard(0, 0), 0);
        edge.due("at GOAL", x.heard(0, 8), 10);
        x.road(24);
        edge.due("on a longer road", x.told(6), 2);
        for (int mark = 1; mark < 24; mark++) {
            edge.due("none at MARK " + mark + ", be it a GOAL ahead", x.mat(mark, true), 1);
        }
    }

    private static void promise2NoWaysNoGoings() {
        edge.says("no WAYS, GOINGS");
        TrainMile x = Worlds.full();
        x.road(8);
        edge.due("WAYS", x.told(1), 0);
        edge.due("GOINGS", x.told(3), 0);
        edge.due("no way", x.earliest(0, 0, 8, 0, 0), Check.NONE);
        edge.due("THE FEWEST MATS", x.fewest(1), 0);
        edge.due("goingIs(0, 0)", x.goingIs(0, 0), Check.BEYOND);
        edge.due("nobody stands: RUNNER 0", x.would(0, 8), 3 * 8 + 2);
        edge.due("WAYS begin with 0 again", x.way(8, 1, 0, 0), 0);
        edge.due("GOINGS begin with 0 again", x.going(0, 0, 0, 0), 0);
    }

    private static void promise2NobodyIsHeardNorOff() {
        edge.says("nobody is HEARD nor OFF");
        TrainMile x = new TrainMile();
        x.road(8);
        for (int r = 0; r < 12; r++) {
            x.runner(1 + r, r);
        }
        x.way(2, 1, 0, 0);
        for (int r = 0; r < 12; r++) {
            x.going(3, r, 0, 0);
        }
        Edge.allMats(x);
        edge.due("race()", x.race(), 12);
        edge.due("all are OFF", x.off(0) + x.off(11), 2);
        x.road(8);
        for (int r = 0; r < 12; r++) {
            edge.due("off(" + r + ")", x.off(r), 0);
            for (int mark = 0; mark <= 8; mark++) {
                edge.due("heard(" + r + ", " + mark + ")", x.heard(r, mark), -1);
            }
        }
        x.road(24);
        edge.due("heard(11, 24): nor on a longer road", x.heard(11, 24), -1);
    }

    private static void promise2WhatStays() {
        edge.says("(how DEAF MATS are, HEAT, RUNNERS, TEXTS stay)");
        TrainMile x = new TrainMile();
        x.road(24);
        for (int mark = 0; mark <= 24; mark++) {
            x.deaf(mark, mark % 9 + 1);
        }
        x.heat(9);
        for (int r = 0; r < 12; r++) {
            x.runner(1 + r, 99 - r);
        }
        x.entry(11, 365, 30, 2324);
        x.least(30);
        Check.text(x, 0, "a*2");
        Check.text(x, 1, "f+d");
        Check.feed(x, "abcde");
        x.sheet(3, 8, 24);
        x.race();
        int drawn = x.told(4);
        edge.due("road(4)", x.road(4), 4);
        edge.due("road(24)", x.road(24), 24);
        for (int mark = 0; mark <= 24; mark++) {
            edge.due("deaf(" + mark + ", 0), also off a shorter road", x.deaf(mark, 0), mark % 9 + 1);
        }
        int[] told = {24, 0, 12, 0, drawn, 5, 2, 1, 30, 1, 0};
        for (int what = 0; what < told.length; what++) {
            edge.due("told(" + what + ")", x.told(what), told[what]);
        }
        edge.due("heat(9)", x.heat(9), 9);
        edge.due("RUNNER 11 begins", x.would(11, 0), 88);
        edge.due("TEXT of USE 0", x.pace(11, 0, 23, 0, 0), 24);
        edge.due("TEXT of USE 1", x.odd(11), 12 - 1);
        edge.due("there is no room for a RUNNER", x.runner(5, 0), Check.FULL);
        edge.due("SHEETS stay", x.put(3, 23, 1), 1);
    }

    private static void promise3Climb() {
        edge.says("a CLIMB each (-4 .. 9; 0 at first)");
        edge.in(Worlds::busy);
        edge.spans("climb(7, %d)", (x, v) -> x.climb(7, v), -4, 9);
        edge.spans("climb(%d, 0)", (x, v) -> x.climb(v, 0), 0, 7);
        edge.takes("what it was", x -> x.climb(7, 9), 4);
        edge.in(Worlds::fresh);
        edge.spans("climb(%d, 0)", (x, v) -> x.climb(v, 0), 0, 3);
        for (int v = -4; v <= 9; v += 13) {
            int climb = v;
            edge.takes("climb(3, " + v + ") twice", x -> x.climb(3, climb) * 100 + x.climb(3, climb), climb);
        }
        edge.says("Without: a + c / 2 + b / 6");
        int[] paces = {28, 29, 29, 30, 30, 30, 31, 31, 32, 32, 33, 33, 34, 34};
        for (int c = -4; c <= 9; c++) {
            TrainMile x = new TrainMile();
            x.runner(30, 0);
            x.climb(2, c);
            edge.due("CLIMB " + c + " is cut", x.pace(0, 0, 2, 0, 0), paces[c + 4]);
        }
    }

    private static void promise3EachPieceHasItsOwn() {
        edge.says("CLIMB of a PIECE: what it was");
        TrainMile x = new TrainMile();
        x.road(24);
        for (int piece = 0; piece < 24; piece++) {
            edge.due("climb(" + piece + ", ..)", x.climb(piece, piece % 14 - 4), 0);
        }
        for (int piece = 0; piece < 24; piece++) {
            edge.due("climb(" + piece + ", 0)", x.climb(piece, 0), piece % 14 - 4);
        }
    }

    private static void promise4Heat() {
        edge.says("HEAT is 0 .. 9 (0 at first)");
        edge.in(Worlds::busy);
        edge.spans("heat(%d)", TrainMile::heat, 0, 9);
        edge.takes("what it was", x -> x.heat(9), 4);
        edge.takes("twice", x -> x.heat(9) * 100 + x.heat(0), 409);
        edge.in(Worlds::fresh);
        edge.takes("at first", x -> x.heat(0), 0);
    }

    private static void promise5Mat() {
        edge.says("BEYOND: no such MARK, or START, GOAL");
        edge.in(Worlds::busy);
        edge.spans("mat(%d, true)", (x, v) -> x.mat(v, true), 1, 7);
        edge.spans("mat(%d, false)", (x, v) -> x.mat(v, false), 1, 7);
        // Of marks as bits of an int, 32 more would be the same one.
        edge.refusesEach("mat(%d, true)", (x, v) -> x.mat(v, true), 9, 25, 31, 32, 33, 35, -31, -29);
        edge.refusesEach("mat(%d, false)", (x, v) -> x.mat(v, false), 9, 32, 34, 40, -30, -24);
        edge.in(Worlds::fresh);
        edge.spans("mat(%d, true)", (x, v) -> x.mat(v, true), 1, 3);
        edge.in(() -> {
            TrainMile x = new TrainMile();
            x.road(24);
            return x;
        });
        edge.spans("mat(%d, true)", (x, v) -> x.mat(v, true), 1, 23);
    }

    private static void promise5OtherwiseOrNot() {
        edge.says("A MAT is at a MARK, or not: 1 if it was otherwise, else 0");
        TrainMile x = new TrainMile();
        x.road(24);
        for (int mark = 1; mark < 24; mark++) {
            edge.due("none is there: mat(" + mark + ", false)", x.mat(mark, false), 0);
            edge.due("mat(" + mark + ", true)", x.mat(mark, true), 1);
            edge.due("again", x.mat(mark, true), 0);
            edge.due("told(6)", x.told(6), 2 + mark);
        }
        for (int mark = 1; mark < 24; mark++) {
            edge.due("mat(" + mark + ", false)", x.mat(mark, false), 1);
            edge.due("again", x.mat(mark, false), 0);
            edge.due("told(6)", x.told(6), 25 - mark);
        }
    }

    private static void promise6Deaf() {
        edge.says("each is DEAF by 0 .. 9 (0 at first");
        edge.in(Worlds::busy);
        edge.spans("deaf(4, %d)", (x, v) -> x.deaf(4, v), 0, 9);
        edge.spans("deaf(5, %d), no MAT there", (x, v) -> x.deaf(5, v), 0, 9);
        edge.spans("deaf(%d, 9)", (x, v) -> x.deaf(v, 9), 0, 8);
        edge.takes("what it was", x -> x.deaf(6, 9), 3);
        edge.takes("twice", x -> x.deaf(0, 9) * 100 + x.deaf(0, 0), 9);
        edge.says("MARKS 0 .. n are between them: 0 is START, n GOAL");
        for (int n : new int[] {4, 8, 24}) {
            edge.in(() -> pieces(n));
            edge.spans("deaf(%d, 9)", (x, v) -> x.deaf(v, 9), 0, n);
            edge.spans("climb(%d, 9)", (x, v) -> x.climb(v, 9), 0, n - 1);
        }
    }

    private static void promise6KeptWithoutMat() {
        edge.says("kept also while there is no MAT");
        TrainMile x = new TrainMile();
        x.deaf(2, 9);
        x.mat(2, true);
        edge.due("from ahead of the MAT", x.deaf(2, 7), 9);
        x.mat(2, false);
        x.mat(2, true);
        edge.due("while there was none", x.deaf(2, 7), 7);
        x.runner(1, 0);
        x.draw(Edge.beforeDigit(6));
        x.race();
        edge.due("it doesn't hear", x.heard(0, 2), -1);
    }

    private static TrainMile pieces(int n) {
        TrainMile x = new TrainMile();
        x.road(n);
        return x;
    }

    private static void promise7WayEnds() {
        edge.says("ends: 100 times the MARK from, and that to");
        edge.in(() -> pieces(24));
        edge.takesEach("way(%d, ..)", (x, v) -> x.way(v, 5, 0, 0), 1, 24, 102, 1213, 2224, 2324);
        edge.refusesEach("way(%d, ..)", (x, v) -> x.way(v, 5, 0, 0),
                0, 25, 99, 100, 101, 125, 1212, 1211, 2322, 2323, 2325, 2400, 2424, 2425, 2499, 2526,
                10001, 10024, -1, -99, -100, -101, -2324, Integer.MAX_VALUE, Integer.MIN_VALUE);
        edge.in(Worlds::busy);
        edge.takesEach("way(%d, ..)", (x, v) -> x.way(v, 5, 0, 0), 1, 8, 708);
        edge.refusesEach("way(%d, ..)", (x, v) -> x.way(v, 5, 0, 0), 9, 709, 707, 706, 808, 809);
        edge.refusesEach("way(%d, ..) of a TRAIN", (x, v) -> x.way(v, 5, 0, 1), 9, 707, 808, -1);
        edge.says("WAYS 0, 1, .. (at most 12) go beside THE ROAD from a MARK to a greater one");
        for (int from = 0; from < 24; from++) {
            TrainMile x = pieces(24);
            x.way(100 * from + 24, 3, 0, 0);
            edge.due("the WAY from " + from, x.earliest(from, 10, 24, 0, 0), 13);
            TrainMile y = pieces(24);
            y.way(from + 1, 3, 0, 0);
            edge.due("the WAY to " + (from + 1), y.earliest(0, 10, from + 1, 0, 0), 13);
        }
    }

    private static void promise7WayMinutes() {
        edge.says("Both take so many minutes (1 .. 300)");
        edge.in(Worlds::busy);
        edge.spans("way(8, %d, 0, 0)", (x, v) -> x.way(8, v, 0, 0), 1, 300);
        edge.spans("way(8, %d, 0, 1)", (x, v) -> x.way(8, v, 0, 1), 1, 300);
        for (int minutes = 1; minutes <= 300; minutes += 299) {
            TrainMile x = pieces(4);
            x.way(2, minutes, 0, 0);
            x.way(204, minutes, 0, 1);
            edge.due("FOOT takes " + minutes, x.earliest(0, 0, 2, 0, 0), minutes);
            edge.due("TRAIN takes " + minutes, x.earliest(2, 0, 4, 0, 0), minutes);
        }
    }

    private static void promise7WayTrains() {
        edge.says("it leaves at a minute (FIRST, 0 .. 999) and each so many minutes (EACH, 1 .. 99) behind");
        edge.in(Worlds::busy);
        edge.spans("way(8, 5, %d, 1)", (x, v) -> x.way(8, 5, v, 1), 0, 999);
        edge.spans("way(8, 5, %d, 99)", (x, v) -> x.way(8, 5, v, 99), 0, 999);
        edge.spans("way(8, 5, 0, %d)", (x, v) -> x.way(8, 5, 0, v), 0, 99);
        edge.says("FOOT: each is 0 (first isn't looked at then)");
        edge.takesEach("way(8, 5, %d, 0)", (x, v) -> x.way(8, 5, v, 0),
                0, -1, 999, 1000, Integer.MIN_VALUE, Integer.MAX_VALUE);
        edge.says("FOOT (any time)");
        TrainMile x = pieces(4);
        x.way(4, 5, 999, 0);
        edge.due("at 0", x.earliest(0, 0, 4, 0, 0), 5);
        edge.due("at 7", x.earliest(0, 7, 4, 0, 0), 12);
        edge.due("at 2000", x.earliest(0, 2000, 4, 0, 0), 2005);
        edge.says("a TRAIN: it leaves at a minute");
        TrainMile y = pieces(6);
        y.way(1, 1, 0, 1);
        y.way(102, 1, 999, 99);
        y.way(203, 1, 0, 99);
        edge.due("FIRST 0, EACH 1, at 0", y.earliest(0, 0, 1, 0, 0), 1);
        edge.due("FIRST 0, EACH 1, at 2000", y.earliest(0, 2000, 1, 0, 0), 2001);
        edge.due("FIRST 999, at 0", y.earliest(1, 0, 2, 0, 0), 1000);
        edge.due("FIRST 999, at 999", y.earliest(1, 999, 2, 0, 0), 1000);
        edge.due("FIRST 999, EACH 99, at 1000", y.earliest(1, 1000, 2, 0, 0), 1099);
        edge.due("FIRST 999, EACH 99, at 2000", y.earliest(1, 2000, 2, 0, 0), 2089);
        edge.due("FIRST 0, EACH 99, at 99", y.earliest(2, 99, 3, 0, 0), 100);
        edge.due("FIRST 0, EACH 99, at 100", y.earliest(2, 100, 3, 0, 0), 199);
    }

    private static void promise7WayFull() {
        edge.says("WAYS 0, 1, .. (at most 12)");
        TrainMile x = pieces(8);
        for (int i = 0; i < 12; i++) {
            edge.due("WAY " + i, x.way(8, 300 - i, 0, i % 2), i);
            edge.due("told(1)", x.told(1), i + 1);
        }
        edge.due("one more", x.way(8, 1, 0, 0), Check.FULL);
        edge.due("it isn't there", x.earliest(0, 0, 8, 0, 0), 289);
        edge.in(Worlds::full);
        edge.refuses("one more of FOOT", y -> y.way(8, 1, 0, 0), Check.FULL);
        edge.refuses("one more TRAIN", y -> y.way(8, 1, 0, 1), Check.FULL);
        edge.says("Each act tells its findings in the order in which they are asked");
        edge.refuses("BEYOND ahead of FULL: ends", y -> y.way(9, 1, 0, 0), Check.BEYOND);
        edge.refuses("BEYOND ahead of FULL: minutes", y -> y.way(8, 301, 0, 0), Check.BEYOND);
        edge.refuses("BEYOND ahead of FULL: first", y -> y.way(8, 1, 1000, 1), Check.BEYOND);
        edge.refuses("BEYOND ahead of FULL: each", y -> y.way(8, 1, 0, 100), Check.BEYOND);
    }

    private static void promise8EarliestRefused() {
        edge.says("BEYOND: MARKS (the second above the first), minute (0 .. 2000), v, what");
        edge.in(Worlds::busy);
        edge.spans("earliest(%d, 0, 8, 5, 0)", (x, v) -> x.earliest(v, 0, 8, 5, 0), 0, 7);
        edge.spans("earliest(0, 0, %d, 5, 0)", (x, v) -> x.earliest(0, 0, v, 5, 0), 1, 8);
        edge.spans("earliest(5, 0, %d, 5, 0)", (x, v) -> x.earliest(5, 0, v, 5, 0), 6, 8);
        edge.spans("earliest(%d, 0, 5, 5, 0)", (x, v) -> x.earliest(v, 0, 5, 5, 0), 0, 4);
        edge.spans("earliest(0, %d, 8, 5, 0)", (x, v) -> x.earliest(0, v, 8, 5, 0), 0, 2000);
        edge.spans("earliest(0, 0, 8, %d, 0)", (x, v) -> x.earliest(0, 0, 8, v, 0), 0, 60);
        edge.spans("earliest(0, 0, 8, 5, %d)", (x, v) -> x.earliest(0, 0, 8, 5, v), 0, 1);
        edge.refuses("earliest(8, 0, 9, 5, 0)", x -> x.earliest(8, 0, 9, 5, 0), Check.BEYOND);
        edge.refuses("earliest(8, 0, 8, 5, 0)", x -> x.earliest(8, 0, 8, 5, 0), Check.BEYOND);
    }

    private static void promise8EarliestNone() {
        edge.says("NONE: there is no way");
        edge.in(Worlds::fresh);
        edge.refuses("earliest(0, 0, 1, 0, 0)", x -> x.earliest(0, 0, 1, 0, 0), Check.NONE);
        edge.refuses("earliest(0, 2000, 4, 0, 1)", x -> x.earliest(0, 2000, 4, 0, 1), Check.NONE);
        edge.refuses("BEYOND ahead of NONE", x -> x.earliest(0, 0, 4, 0, 2), Check.BEYOND);
        edge.refuses("BEYOND ahead of NONE", x -> x.earliest(0, 2001, 4, 0, 0), Check.BEYOND);
        edge.takes("on foot there is always one", x -> x.earliest(0, 0, 4, 1, 0), 4);
        edge.in(Worlds::busy);
        edge.refuses("by WAYS one isn't at 7", x -> x.earliest(0, 0, 7, 0, 0), Check.NONE);
        edge.refuses("no WAY begins at 3", x -> x.earliest(3, 0, 8, 0, 0), Check.NONE);
        edge.takes("by one WAY one is at 8", x -> x.earliest(0, 0, 8, 0, 0), 250);
    }

    private static void promise8EarliestNotOnFoot() {
        edge.says("on foot at v minutes a PIECE (0 .. 60; 0: not on foot)");
        TrainMile x = pieces(24);
        edge.due("1 a PIECE", x.earliest(0, 0, 24, 1, 0), 24);
        edge.due("60 a PIECE", x.earliest(0, 2000, 24, 60, 0), 2000 + 24 * 60);
        edge.due("60 a PIECE, WAYS", x.earliest(0, 2000, 24, 60, 1), 0);
        edge.due("one PIECE", x.earliest(23, 5, 24, 60, 0), 65);
        x.way(10, 7, 0, 0);
        x.way(1124, 7, 0, 0);
        edge.due("0: a PIECE between two WAYS isn't gone", x.earliest(0, 0, 24, 0, 0), Check.NONE);
        edge.due("1: it is", x.earliest(0, 0, 24, 1, 0), 15);
        edge.due("1: it is, WAYS", x.earliest(0, 0, 24, 1, 1), 2);
    }

    private static void promise8EarliestTrainNotAhead() {
        edge.says("by TRAIN the first one not ahead of then");
        TrainMile x = pieces(4);
        x.way(4, 10, 50, 20);
        int[][] due = {{0, 60}, {49, 60}, {50, 60}, {51, 80}, {69, 80}, {70, 80}, {71, 100}};
        for (int[] d : due) {
            edge.due("at " + d[0], x.earliest(0, d[0], 4, 0, 0), d[1]);
        }
    }

    private static void promise8EarliestGreatest() {
        edge.says("EARLIEST: what 0 the minute, 1 the fewest WAYS with which one is there then");
        TrainMile x = pieces(24);
        // Each takes 300 and then waits nearly 99 minutes for the next.
        for (int i = 0; i < 12; i++) {
            x.way(200 * i + 2 * i + 2, 300, 999, 99);
        }
        int minute = 2000;
        for (int i = 0; i < 12; i++) {
            minute = 999 + (minute - 999 + 98) / 99 * 99 + 300;
        }
        edge.due("the latest that may be", x.earliest(0, 2000, 24, 0, 0), minute);
        edge.due("with twelve WAYS", x.earliest(0, 2000, 24, 0, 1), 12);
    }

    private static void promise8EarliestWaysThatDontHelp() {
        edge.says("the first minute at which one who is at a MARK at a minute may be at another one behind it");
        TrainMile x = pieces(8);
        x.way(6, 1, 0, 0);
        x.way(208, 1, 0, 0);
        edge.due("a WAY that goes beyond it", x.earliest(0, 0, 5, 9, 0), 45);
        edge.due("a WAY that begins ahead of it", x.earliest(1, 0, 6, 9, 0), 45);
        edge.due("just to it", x.earliest(0, 0, 6, 9, 0), 1);
        edge.due("just from it", x.earliest(2, 0, 8, 9, 0), 1);
        edge.due("1 and 18 on foot", x.earliest(0, 0, 8, 9, 0), 19);
        edge.due("its WAYS", x.earliest(0, 0, 8, 9, 1), 1);
        x.way(608, 18, 0, 0);
        edge.due("as soon with one WAY more", x.earliest(0, 0, 8, 9, 1), 1);
        x.way(608, 17, 0, 0);
        edge.due("sooner with one WAY more", x.earliest(0, 0, 8, 9, 1), 2);
    }

    private static void promise8EarliestTwelveWays() {
        edge.says("the fewest WAYS with which one is there then");
        TrainMile x = pieces(12);
        for (int i = 0; i < 12; i++) {
            x.way(100 * i + i + 1, 1, 0, 0);
            edge.due("WAYS to " + (i + 1), x.earliest(0, 0, i + 1, 2, 1), i + 1);
        }
        edge.due("as slow as on foot: none", x.earliest(0, 0, 12, 1, 1), 0);
        edge.due("not on foot: all", x.earliest(0, 0, 12, 0, 1), 12);
    }

    private static void promise8EarliestAllIsFull() {
        edge.says("by WAYS, and on foot at v minutes a PIECE");
        TrainMile x = pieces(24);
        for (int i = 0; i < 12; i++) {
            x.way(200 * i + 2 * i + 2, 3, 0, 0);
        }
        edge.due("2 a PIECE: WAYS are sooner", x.earliest(0, 5, 24, 2, 0), 5 + 12 * 3);
        edge.due("2 a PIECE: all twelve", x.earliest(0, 5, 24, 2, 1), 12);
        edge.due("1 a PIECE: on foot is", x.earliest(0, 5, 24, 1, 0), 5 + 24);
        edge.due("1 a PIECE: none", x.earliest(0, 5, 24, 1, 1), 0);
        edge.due("60 a PIECE: from 1 on foot to 2", x.earliest(1, 5, 24, 60, 0), 65 + 11 * 3);
        edge.due("60 a PIECE: the other eleven", x.earliest(1, 5, 24, 60, 1), 11);
        edge.due("0: from 1 no WAY begins", x.earliest(1, 5, 24, 0, 0), Check.NONE);
    }

    private static void promise9FewestRefused() {
        edge.says("THE FEWEST MATS: what 0 how many, 1 MARKS as bits");
        edge.in(Worlds::busy);
        edge.spans("fewest(%d)", TrainMile::fewest, 0, 1);
        edge.in(Worlds::fresh);
        edge.takes("no WAYS", x -> x.fewest(0), 0);
        edge.takes("no WAYS", x -> x.fewest(1), 0);
    }

    private static int fewestOf(int n, int... ends) {
        TrainMile x = pieces(n);
        for (int e : ends) {
            x.way(e, 1, 0, 0);
        }
        int marks = x.fewest(1);
        edge.due("how many", x.fewest(0), Integer.bitCount(marks));
        return marks;
    }

    private static void promise9FewestTwoBehind() {
        edge.says("each WAY from one MARK to the one two behind it or farther");
        edge.due("to the one behind: none", fewestOf(4, 1, 102, 203, 304), 0);
        edge.due("to the one two behind: that between", fewestOf(4, 2), 1 << 1);
        edge.due("up to GOAL", fewestOf(4, 204), 1 << 3);
        edge.due("up to the last GOAL", fewestOf(24, 2224), 1 << 23);
        edge.due("a TRAIN counts as one of FOOT", trainOver(), 1 << 1);
    }

    private static int trainOver() {
        TrainMile x = pieces(4);
        x.way(3, 9, 0, 9);
        return x.fewest(1);
    }

    private static void promise9FewestStrictlyBetween() {
        edge.says("has one strictly between its ends");
        edge.due("2 is an end of both", fewestOf(4, 2, 204), 1 << 1 | 1 << 3);
        edge.due("2 is an end of one", fewestOf(6, 204, 3), 1 << 1 | 1 << 3);
        edge.due("2 is between both", fewestOf(6, 104, 3), 1 << 2);
        edge.due("all the same", fewestOf(6, 204, 204, 204), 1 << 3);
    }

    private static void promise9FewestLesserFirst() {
        edge.says("of several those with the lesser first MARK, then the second, and so on");
        edge.due("all MARKS would do", fewestOf(24, 24), 1 << 1);
        edge.due("the first lesser, then the second", fewestOf(24, 10, 1224), 1 << 1 | 1 << 13);
        edge.due("the first not so low that one more is needed", fewestOf(24, 5, 309), 1 << 4);
        edge.due("the first low, the second not so", fewestOf(24, 5, 610, 812), 1 << 1 | 1 << 9);
        edge.due("then the third", fewestOf(24, 4, 609, 815, 1620), 1 << 1 | 1 << 7 | 1 << 9 | 1 << 17);
    }

    private static void promise9FewestLongest() {
        edge.says("MARKS 1 .. n - 1");
        int[] apart = new int[12];
        for (int i = 0; i < 12; i++) {
            apart[i] = 200 * i + 2 * i + 2;
        }
        edge.due("twelve apart on the longest road", fewestOf(24, apart), 0xAAAAAA);
    }

    private static void promise9FewestAsWaysAreNow() {
        edge.says("the fewest; of several those with the lesser first MARK");
        TrainMile x = pieces(8);
        x.way(2, 1, 0, 0);
        x.way(608, 1, 0, 0);
        x.image();
        edge.due("two", x.fewest(1), 1 << 1 | 1 << 7);
        x.road(8);
        edge.due("none on a ROAD anew", x.fewest(1), 0);
        edge.due("none on a ROAD anew", x.fewest(0), 0);
        x.way(305, 1, 0, 0);
        edge.due("one", x.fewest(1), 1 << 4);
        x.restore();
        edge.due("two again", x.fewest(1), 1 << 1 | 1 << 7);
    }
}
