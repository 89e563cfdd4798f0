/** Promises 10 to 15: runners, goings, draws. */
public final class RunnersTest {
    private static final Check check = new Check("RunnersTest");

    public static void main(String[] args) {
        promise10Runner();
        promise11GoingEnds();
        promise11GoingNumbers();
        promise11GoingFindings();
        promise12Forget();
        promise13As();
        promise14GoingIs();
        promise15Draw();
        check.end();
    }

    private static void promise10Runner() {
        TrainMile x = new TrainMile();
        check.due("runner(0, 0)", x.runner(0, 0), Check.BEYOND);
        check.due("runner(31, 0)", x.runner(31, 0), Check.BEYOND);
        check.due("runner(5, -1)", x.runner(5, -1), Check.BEYOND);
        check.due("runner(5, 100)", x.runner(5, 100), Check.BEYOND);
        check.due("told(2)", x.told(2), 0);
        check.due("runner(1, 0)", x.runner(1, 0), 0);
        check.due("runner(30, 99)", x.runner(30, 99), 1);
        check.due("would(1, 0)", x.would(1, 0), 99);
        check.due("would(1, 1)", x.would(1, 1), 129);
        x.race();
        for (int i = 2; i < 12; i++) {
            check.due("runner " + i, x.runner(5, 5), i);
            check.due("heard(" + i + ", 0): behind THE RACE", x.heard(i, 0), -1);
        }
        check.due("runner 12", x.runner(5, 5), Check.FULL);
        check.due("runner 12, BEYOND ahead of FULL", x.runner(0, 5), Check.BEYOND);
        check.due("told(2)", x.told(2), 12);
    }

    private static TrainMile sixPieces() {
        TrainMile x = new TrainMile();
        x.road(6);
        x.runner(5, 0);
        x.runner(7, 0);
        x.way(204, 3, 0, 0);
        x.way(205, 3, 10, 10);
        return x;
    }

    private static void promise11GoingEnds() {
        TrainMile x = sixPieces();
        int told = 0;
        for (int kind = 0; kind < 8; kind++) {
            boolean looksAtTo = kind == 1 || kind == 2 || kind == 6;
            boolean way = kind == 3 || kind == 4;
            boolean atGoal = kind == 5 || kind == 7;
            int number = kind == 4 ? 1 : 0;
            String is = "going of KIND " + kind;
            check.due(is + " from GOAL", x.going(kind, 0, 600, number), atGoal ? told++ : Check.BEYOND);
            check.due(is + " from GOAL to 99", x.going(kind, 0, 699, number), atGoal ? told++ : Check.BEYOND);
            check.due(is + " behind GOAL", x.going(kind, 0, 700, number), Check.BEYOND);
            check.due(is + " behind GOAL, to behind", x.going(kind, 0, 708, number), Check.BEYOND);
            check.due(is + " with ends below 0", x.going(kind, 0, -1, number), Check.BEYOND);
            check.due(is + " with ends far below 0", x.going(kind, 0, Integer.MIN_VALUE, number), Check.BEYOND);
            check.due(is + " to the MARK from", x.going(kind, 0, 202, number), looksAtTo ? Check.BEYOND : told++);
            check.due(is + " to behind GOAL", x.going(kind, 0, 207, number), looksAtTo ? Check.BEYOND : told++);
            check.due(is + " to GOAL", x.going(kind, 0, 206, number), told++);
            check.due(is + " from 5", x.going(kind, 0, 506, number), way ? Check.KIND : told++);
            check.due("forget", x.forget(0), told);
            told = 0;
        }
    }

    private static void promise11GoingNumbers() {
        TrainMile x = sixPieces();
        // By KIND the least and the greatest number.
        int[][] ends = {{0, 99}, {0, 20}, {0, 20}, {0, 1}, {0, 1}, {0, 1}, {0, 1}};
        for (int kind = 0; kind < ends.length; kind++) {
            String is = "going of KIND " + kind;
            check.due(is + ", number below", x.going(kind, 0, 203, ends[kind][0] - 1), Check.BEYOND);
            check.due(is + ", number above", x.going(kind, 0, 203, ends[kind][1] + 1), Check.BEYOND);
            check.due(is + ", least", x.going(kind, 0, 203, ends[kind][0]), kind == 4 ? Check.KIND : 0);
            x.forget(0);
            check.due(is + ", greatest", x.going(kind, 0, 203, ends[kind][1]), kind == 3 ? Check.KIND : 0);
            x.forget(0);
        }
        check.due("MISSED, any number", x.going(7, 0, 200, Integer.MIN_VALUE), 0);
        check.due("MISSED, any number", x.going(7, 0, 200, Integer.MAX_VALUE), 1);
        check.due("its number as told", x.goingIs(1, 4), Integer.MAX_VALUE);
        check.due("CARRIED by itself", x.going(5, 1, 200, 1), 2);
        check.due("SWAPPED for itself", x.going(6, 1, 203, 1), 3);
    }

    private static void promise11GoingFindings() {
        TrainMile x = sixPieces();
        check.due("kind -1", x.going(-1, 0, 203, 0), Check.BEYOND);
        check.due("kind 8", x.going(8, 0, 203, 0), Check.BEYOND);
        check.due("runner -1", x.going(0, -1, 203, 0), Check.BEYOND);
        check.due("runner 2", x.going(0, 2, 203, 0), Check.BEYOND);
        check.due("SHORT by a TRAIN", x.going(3, 0, 203, 1), Check.KIND);
        check.due("RIDDEN by a WAY of FOOT", x.going(4, 0, 203, 0), Check.KIND);
        check.due("SHORT from elsewhere", x.going(3, 0, 103, 0), Check.KIND);
        check.due("RIDDEN from elsewhere", x.going(4, 0, 306, 1), Check.KIND);
        check.due("BEYOND ahead of KIND", x.going(3, 2, 103, 0), Check.BEYOND);
        check.due("told(3)", x.told(3), 0);
        for (int i = 0; i < 40; i++) {
            check.due("going " + i, x.going(0, i % 2, 100 * (i % 6), i), i);
        }
        check.due("going 40", x.going(0, 0, 0, 0), Check.FULL);
        check.due("going 40: KIND ahead of FULL", x.going(4, 0, 203, 0), Check.KIND);
        check.due("going 40: BEYOND ahead of FULL", x.going(0, 0, 0, 100), Check.BEYOND);
        check.due("told(3)", x.told(3), 40);
        check.due("found(4)", x.found(4), 1);
        check.due("found(5)", x.found(5), 5);
    }

    private static void promise12Forget() {
        TrainMile x = sixPieces();
        check.due("forget(0) of none", x.forget(0), 0);
        for (int i = 0; i < 5; i++) {
            x.going(0, 0, 0, 10 + i);
        }
        check.due("forget(6)", x.forget(6), Check.BEYOND);
        check.due("forget(-1)", x.forget(-1), Check.BEYOND);
        check.due("forget(5)", x.forget(5), 0);
        check.due("would(0, 1): the latest", x.would(0, 1), 19);
        check.due("forget(3)", x.forget(3), 2);
        check.due("would(0, 1): the latest of what is left", x.would(0, 1), 17);
        check.due("goingIs(3, 0)", x.goingIs(3, 0), Check.BEYOND);
        check.due("going: the number goes on", x.going(0, 0, 0, 2), 3);
        check.due("forget(0)", x.forget(0), 4);
        check.due("would(0, 1)", x.would(0, 1), 5);
    }

    /** One GOING of each KIND, by its KIND's number, with numbers that differ where they may. */
    private static TrainMile oneOfEach() {
        TrainMile x = sixPieces();
        x.going(0, 1, 142, 50);
        x.going(1, 0, 105, 11);
        x.going(2, 1, 305, 12);
        x.going(3, 0, 242, 0);
        x.going(4, 1, 200, 1);
        x.going(5, 0, 699, 1);
        x.going(6, 1, 4, 0);
        x.going(7, 1, 601, -9);
        return x;
    }

    private static void promise13As() {
        TrainMile x = oneOfEach();
        int[] numbers = {50, 11, 12, 0, 1, 1, 0, -9};
        String[] under = {"0", "01", "012", "03", "034", "05", "06", "017"};
        for (int going = 0; going < 8; going++) {
            for (int kind = 0; kind < 8; kind++) {
                boolean is = under[going].indexOf('0' + kind) >= 0;
                check.due("as(" + going + ", " + kind + ")", x.as(going, kind), is ? numbers[going] : Check.KIND);
            }
            check.due("as(" + going + ", -1)", x.as(going, -1), Check.BEYOND);
            check.due("as(" + going + ", 8)", x.as(going, 8), Check.BEYOND);
        }
        check.due("as(8, 0)", x.as(8, 0), Check.BEYOND);
        check.due("as(-1, 0)", x.as(-1, 0), Check.BEYOND);
        check.due("found(5)", x.found(5), 64 - 18);
    }

    private static void promise14GoingIs() {
        TrainMile x = oneOfEach();
        int[][] due = {
            {0, 1, 1, 42, 50}, {1, 0, 1, 5, 11}, {2, 1, 3, 5, 12}, {3, 0, 2, 42, 0},
            {4, 1, 2, 0, 1}, {5, 0, 6, 99, 1}, {6, 1, 0, 4, 0}, {7, 1, 6, 1, -9},
        };
        for (int going = 0; going < 8; going++) {
            for (int what = 0; what < 5; what++) {
                check.due("goingIs(" + going + ", " + what + ")", x.goingIs(going, what), due[going][what]);
            }
        }
        check.due("goingIs(0, 5)", x.goingIs(0, 5), Check.BEYOND);
        check.due("goingIs(0, -1)", x.goingIs(0, -1), Check.BEYOND);
        check.due("goingIs(8, 0)", x.goingIs(8, 0), Check.BEYOND);
        check.due("goingIs(-1, 0)", x.goingIs(-1, 0), Check.BEYOND);
    }

    private static void promise15Draw() {
        TrainMile x = new TrainMile();
        check.due("draw(65535)", x.draw(65535), 1);
        check.due("draw(65536)", x.draw(65536), Check.BEYOND);
        check.due("draw(-1)", x.draw(-1), Check.BEYOND);
        check.due("told(4)", x.told(4), 65535);
        check.due("draw(0)", x.draw(0), 65535);
        check.due("told(4)", x.told(4), 0);
        x.runner(5, 0);
        x.race();
        check.due("told(4): one drawn, at GOAL", x.told(4), 13849);
        x.race();
        check.due("told(4): one more", x.told(4), (int) ((13849L * 25173 + 13849) % 65536));
        x.draw(65535);
        x.race();
        check.due("told(4): from the greatest", x.told(4), (int) ((65535L * 25173 + 13849) % 65536));
    }
}
