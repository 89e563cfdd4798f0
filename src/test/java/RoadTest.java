/** Promises 1 to 9: a new object, and the road. */
public final class RoadTest {
    private static final Check check = new Check("RoadTest");

    public static void main(String[] args) {
        promise1NewObject();
        promise2Road();
        promise2RoadKeeps();
        promise3Climb();
        promise4Heat();
        promise5Mat();
        promise6Deaf();
        promise7Way();
        promise8EarliestOnFoot();
        promise8EarliestByTrains();
        promise8EarliestFewestWays();
        promise8EarliestWrong();
        promise9Fewest();
        promise9FewestOfSeveral();
        check.end();
    }

    private static void promise1NewObject() {
        TrainMile x = new TrainMile();
        int[] due = {4, 0, 0, 0, 1, 0, 2, 0, 3, 0, 0};
        for (int what = 0; what < due.length; what++) {
            check.due("new: told(" + what + ")", x.told(what), due[what]);
        }
        for (int k = 1; k <= 5; k++) {
            check.due("new: found(" + k + ")", x.found(k), 0);
        }
        for (int piece = 0; piece < 4; piece++) {
            check.due("new: climb(" + piece + ", 0)", x.climb(piece, 0), 0);
        }
        for (int mark = 0; mark <= 4; mark++) {
            check.due("new: deaf(" + mark + ", 0)", x.deaf(mark, 0), 0);
        }
        check.due("new: heat(0)", x.heat(0), 0);
        check.due("new: mat(1, false)", x.mat(1, false), 0);
        check.due("new: heard(0, 0)", x.heard(0, 0), Check.BEYOND);
        check.due("new: trace(0)", x.trace(0), Check.NONE);
        check.due("new: restore()", x.restore(), Check.NONE);
        check.due("new: race()", x.race(), 0);
        for (int sheet = 0; sheet < 4; sheet++) {
            check.due("new: put(" + sheet + ", 0, 0)", x.put(sheet, 0, 0), Check.NONE);
        }
    }

    private static void promise2Road() {
        TrainMile x = new TrainMile();
        check.due("road(3)", x.road(3), Check.BEYOND);
        check.due("road(25)", x.road(25), Check.BEYOND);
        check.due("road(-1)", x.road(-1), Check.BEYOND);
        check.due("told(0) behind BEYOND", x.told(0), 4);
        check.due("road(4)", x.road(4), 4);
        check.due("road(24)", x.road(24), 24);
        check.due("told(0)", x.told(0), 24);
        x.climb(23, 5);
        x.mat(7, true);
        x.way(5, 1, 0, 0);
        x.runner(5, 0);
        x.going(3, 0, 0, 0);
        x.race();
        check.due("off(0)", x.off(0), 1);
        check.due("heard(0, 7)", x.heard(0, 7), 11);
        check.due("road(9)", x.road(9), 9);
        check.due("told(1): no WAYS", x.told(1), 0);
        check.due("told(3): no GOINGS", x.told(3), 0);
        check.due("told(6): MATS at START and GOAL", x.told(6), 2);
        check.due("mat(7, false): none there", x.mat(7, false), 0);
        check.due("off(0): nobody", x.off(0), 0);
        for (int mark = 0; mark <= 9; mark++) {
            check.due("heard(0, " + mark + "): nobody", x.heard(0, mark), -1);
        }
        x.race();
        check.due("heard(0, 9): the new GOAL has a MAT", x.heard(0, 9), 48);
        check.due("road(24)", x.road(24), 24);
        check.due("climb(23, 0): without CLIMB", x.climb(23, 0), 0);
    }

    private static void promise2RoadKeeps() {
        TrainMile x = new TrainMile();
        x.road(10);
        x.deaf(9, 7);
        x.deaf(4, 3);
        x.heat(6);
        x.runner(5, 9);
        x.entry(0, 1, 2, 304);
        x.least(8);
        x.draw(77);
        x.race();
        int drawn = x.told(4);
        Check.text(x, 0, "a*3");
        Check.text(x, 1, "41");
        Check.feed(x, "abc");
        check.due("road(5)", x.road(5), 5);
        check.due("told(2)", x.told(2), 1);
        check.due("told(4)", x.told(4), drawn);
        check.due("told(5)", x.told(5), 3);
        check.due("told(7)", x.told(7), 1);
        check.due("told(8)", x.told(8), 8);
        check.due("told(9)", x.told(9), 1);
        check.due("heat(6)", x.heat(6), 6);
        check.due("deaf(4, 3)", x.deaf(4, 3), 3);
        check.due("pace by the text", x.pace(0, 0, 0, 0, 0), 15);
        check.due("odd by the text", x.odd(0), 41);
        check.due("would(0, 0)", x.would(0, 0), 9);
        x.road(10);
        check.due("deaf(9, 0): kept beyond a shorter road", x.deaf(9, 0), 7);
    }

    private static void promise3Climb() {
        TrainMile x = new TrainMile();
        check.due("climb(3, 9)", x.climb(3, 9), 0);
        check.due("climb(3, -4)", x.climb(3, -4), 9);
        check.due("climb(3, 10)", x.climb(3, 10), Check.BEYOND);
        check.due("climb(3, -5)", x.climb(3, -5), Check.BEYOND);
        check.due("climb(4, 0)", x.climb(4, 0), Check.BEYOND);
        check.due("climb(-1, 0)", x.climb(-1, 0), Check.BEYOND);
        check.due("climb(3, 1)", x.climb(3, 1), -4);
        check.due("climb(0, 1)", x.climb(0, 1), 0);
        check.due("found(1)", x.found(1), 4);
        x.runner(10, 0);
        x.climb(2, 9);
        x.climb(1, -3);
        check.due("pace up 9", x.pace(0, 0, 2, 0, 0), 14);
        check.due("pace down 3, cut", x.pace(0, 0, 1, 0, 0), 9);
    }

    private static void promise4Heat() {
        TrainMile x = new TrainMile();
        check.due("heat(9)", x.heat(9), 0);
        check.due("heat(10)", x.heat(10), Check.BEYOND);
        check.due("heat(-1)", x.heat(-1), Check.BEYOND);
        check.due("heat(0)", x.heat(0), 9);
        check.due("heat(4)", x.heat(4), 0);
        x.runner(10, 0);
        Check.text(x, 0, "a+d");
        check.due("pace with heat", x.pace(0, 0, 0, 0, 0), 14);
    }

    private static void promise5Mat() {
        TrainMile x = new TrainMile();
        check.due("mat(1, true)", x.mat(1, true), 1);
        check.due("mat(1, true) again", x.mat(1, true), 0);
        check.due("told(6)", x.told(6), 3);
        check.due("mat(3, true)", x.mat(3, true), 1);
        check.due("mat(1, false)", x.mat(1, false), 1);
        check.due("mat(1, false) again", x.mat(1, false), 0);
        check.due("mat(0, true)", x.mat(0, true), Check.BEYOND);
        check.due("mat(4, false)", x.mat(4, false), Check.BEYOND);
        check.due("mat(5, true)", x.mat(5, true), Check.BEYOND);
        check.due("mat(-1, true)", x.mat(-1, true), Check.BEYOND);
        check.due("mat(33, true)", x.mat(33, true), Check.BEYOND);
        check.due("told(6)", x.told(6), 3);
        x.runner(2, 0);
        x.race();
        check.due("heard(0, 1): no MAT", x.heard(0, 1), -1);
        check.due("heard(0, 3): a MAT", x.heard(0, 3), 6);
        x.mat(3, false);
        check.due("heard(0, 3): it was HEARD, though the MAT is gone", x.heard(0, 3), 6);
    }

    private static void promise6Deaf() {
        TrainMile x = new TrainMile();
        check.due("deaf(2, 9), no MAT there", x.deaf(2, 9), 0);
        x.mat(2, true);
        check.due("deaf(2, 4)", x.deaf(2, 4), 9);
        x.mat(2, false);
        check.due("deaf(2, 5)", x.deaf(2, 5), 4);
        check.due("deaf(0, 9)", x.deaf(0, 9), 0);
        check.due("deaf(4, 9)", x.deaf(4, 9), 0);
        check.due("deaf(5, 0)", x.deaf(5, 0), Check.BEYOND);
        check.due("deaf(-1, 0)", x.deaf(-1, 0), Check.BEYOND);
        check.due("deaf(2, 10)", x.deaf(2, 10), Check.BEYOND);
        check.due("deaf(2, -1)", x.deaf(2, -1), Check.BEYOND);
        check.due("deaf(2, 0)", x.deaf(2, 0), 5);
    }

    private static void promise7Way() {
        TrainMile x = new TrainMile();
        x.road(6);
        check.due("way(6, 1, 0, 0)", x.way(6, 1, 0, 0), 0);
        check.due("way(506, 300, 999, 99)", x.way(506, 300, 999, 99), 1);
        check.due("way(1, 5, -7, 0): FOOT, first isn't looked at", x.way(1, 5, -7, 0), 2);
        check.due("way(1, 5, 0, 1)", x.way(1, 5, 0, 1), 3);
        int[][] wrong = {
            {7, 5, 0, 0}, {607, 5, 0, 0}, {303, 5, 0, 0}, {302, 5, 0, 0}, {-1, 5, 0, 0}, {-102, 5, 0, 0},
            {10001, 5, 0, 0}, {102, 0, 0, 0}, {102, 301, 0, 0}, {102, 5, -1, 1}, {102, 5, 1000, 1},
            {102, 5, 0, -1}, {102, 5, 0, 100}, {Integer.MIN_VALUE, 5, 0, 0},
        };
        for (int[] w : wrong) {
            check.due("way(" + w[0] + ", " + w[1] + ", " + w[2] + ", " + w[3] + ")",
                    x.way(w[0], w[1], w[2], w[3]), Check.BEYOND);
        }
        for (int i = 4; i < 12; i++) {
            check.due("way number " + i, x.way(3, 5, 0, 0), i);
        }
        check.due("way 12", x.way(3, 5, 0, 0), Check.FULL);
        check.due("way 12, BEYOND ahead of FULL", x.way(30, 5, 0, 0), Check.BEYOND);
        check.due("told(1)", x.told(1), 12);
    }

    private static void promise8EarliestOnFoot() {
        TrainMile x = new TrainMile();
        check.due("not on foot, no WAY", x.earliest(0, 0, 4, 0, 0), Check.NONE);
        check.due("not on foot, no WAY, what 1", x.earliest(0, 0, 4, 0, 1), Check.NONE);
        check.due("on foot", x.earliest(1, 2000, 4, 60, 0), 2180);
        check.due("on foot, WAYS", x.earliest(1, 2000, 4, 60, 1), 0);
        x.way(2, 10, 0, 0);
        check.due("only up to 2", x.earliest(0, 0, 4, 0, 0), Check.NONE);
        check.due("the WAY of FOOT also when not on foot", x.earliest(0, 7, 2, 0, 0), 17);
        check.due("slower than on foot", x.earliest(0, 7, 2, 4, 0), 15);
        check.due("as slow as on foot: no WAY is fewest", x.earliest(0, 7, 2, 5, 1), 0);
        check.due("quicker than on foot", x.earliest(0, 7, 3, 6, 0), 23);
        check.due("quicker than on foot, WAYS", x.earliest(0, 7, 3, 6, 1), 1);
        check.due("from 1 it doesn't begin", x.earliest(1, 7, 3, 6, 0), 19);
    }

    private static void promise8EarliestByTrains() {
        TrainMile x = new TrainMile();
        x.road(8);
        x.way(104, 5, 100, 7);
        check.due("long ahead of the first", x.earliest(1, 0, 4, 0, 0), 105);
        check.due("just at the first", x.earliest(1, 100, 4, 0, 0), 105);
        check.due("just behind the first", x.earliest(1, 101, 4, 0, 0), 112);
        check.due("just at the second", x.earliest(1, 107, 4, 0, 0), 112);
        check.due("behind the second", x.earliest(1, 108, 4, 0, 0), 119);
        check.due("on foot to the train and from it", x.earliest(0, 99, 6, 4, 0), 120);
        check.due("on foot to the train and from it, WAYS", x.earliest(0, 99, 6, 4, 1), 1);
        check.due("one doesn't go back to a train", x.earliest(2, 100, 4, 50, 0), 200);
        x.way(408, 1, 0, 50);
        check.due("two trains", x.earliest(1, 90, 8, 0, 0), 151);
        check.due("two trains, WAYS", x.earliest(1, 90, 8, 0, 1), 2);
    }

    private static void promise8EarliestFewestWays() {
        TrainMile x = new TrainMile();
        x.road(6);
        x.way(2, 4, 0, 0);
        x.way(204, 4, 0, 0);
        x.way(4, 8, 0, 0);
        x.way(406, 5, 20, 20);
        check.due("8 by one and by two", x.earliest(0, 0, 4, 0, 0), 8);
        check.due("8 by one", x.earliest(0, 0, 4, 0, 1), 1);
        check.due("a train that waits for the slower one, too", x.earliest(0, 0, 6, 5, 0), 18);
        check.due("on foot from 4", x.earliest(0, 0, 6, 5, 1), 1);
        check.due("by train from 4", x.earliest(0, 0, 6, 9, 0), 25);
        check.due("on foot to 2 and 4 is 18 and 26: too late; by one way and the train", x.earliest(0, 0, 6, 9, 1), 2);
        check.due("all on foot up to the train", x.earliest(0, 0, 6, 5, 1), 1);
        TrainMile y = new TrainMile();
        y.way(2, 1, 0, 0);
        y.way(204, 5, 30, 10);
        check.due("the train waits: no WAY needed ahead of it", y.earliest(0, 0, 4, 14, 0), 29);
        check.due("WAYS", y.earliest(0, 0, 4, 14, 1), 1);
        check.due("the train waits: on foot to it as well", y.earliest(0, 0, 4, 15, 0), 31);
        check.due("the fewest are looked for with the train", y.earliest(0, 0, 4, 18, 0), 35);
        check.due("walking 36 misses it, the way doesn't", y.earliest(0, 0, 4, 18, 1), 2);
    }

    private static void promise8EarliestWrong() {
        TrainMile x = new TrainMile();
        int[][] wrong = {
            {0, 0, 5, 1, 0}, {-1, 0, 4, 1, 0}, {2, 0, 2, 1, 0}, {3, 0, 2, 1, 0}, {0, -1, 4, 1, 0},
            {0, 2001, 4, 1, 0}, {0, 0, 4, -1, 0}, {0, 0, 4, 61, 0}, {0, 0, 4, 1, -1}, {0, 0, 4, 1, 2},
            {0, 0, 4, 0, 2},
        };
        for (int[] w : wrong) {
            check.due("earliest(" + w[0] + ", " + w[1] + ", " + w[2] + ", " + w[3] + ", " + w[4] + ")",
                    x.earliest(w[0], w[1], w[2], w[3], w[4]), Check.BEYOND);
        }
        check.due("found(1)", x.found(1), wrong.length);
        check.due("found(2)", x.found(2), 0);
    }

    private static void promise9Fewest() {
        TrainMile x = new TrainMile();
        x.road(12);
        check.due("no WAYS", x.fewest(0), 0);
        check.due("no WAYS, MARKS", x.fewest(1), 0);
        x.way(102, 5, 0, 0);
        check.due("a WAY to the next MARK needs none", x.fewest(0), 0);
        x.way(103, 5, 0, 0);
        check.due("just one MARK between", x.fewest(1), 1 << 2);
        x.way(408, 5, 3, 3);
        check.due("two", x.fewest(0), 2);
        check.due("the lesser one of several", x.fewest(1), 1 << 2 | 1 << 5);
        x.way(610, 5, 3, 3);
        check.due("one between both", x.fewest(1), 1 << 2 | 1 << 7);
        x.way(12, 5, 3, 3);
        check.due("the longest has one already", x.fewest(1), 1 << 2 | 1 << 7);
        check.due("fewest(2)", x.fewest(2), Check.BEYOND);
        check.due("fewest(-1)", x.fewest(-1), Check.BEYOND);
        check.due("MATS that are there don't matter", x.mat(3, true), 1);
        check.due("fewest(1)", x.fewest(1), 1 << 2 | 1 << 7);
    }

    private static void promise9FewestOfSeveral() {
        TrainMile x = new TrainMile();
        x.road(24);
        x.way(4, 5, 0, 0);
        x.way(206, 5, 0, 0);
        x.way(509, 5, 0, 0);
        // 3 is between the first two, and 6, 7, 8 in the third: with 1 three would be needed.
        check.due("two are enough", x.fewest(0), 2);
        check.due("the lesser first one that leaves two", x.fewest(1), 1 << 3 | 1 << 6);
        x.way(710, 5, 0, 0);
        check.due("then the lesser second one", x.fewest(1), 1 << 3 | 1 << 8);
        x.way(2224, 5, 0, 0);
        check.due("the last MARK that may be", x.fewest(1), 1 << 3 | 1 << 8 | 1 << 23);
        TrainMile y = new TrainMile();
        y.road(24);
        for (int i = 0; i < 12; i++) {
            y.way(200 * i + 2 * i + 2, 5, 0, 0);
        }
        check.due("twelve apart", y.fewest(0), 12);
        check.due("twelve apart, MARKS", y.fewest(1), 0xAAAAAA);
    }
}
