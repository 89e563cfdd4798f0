/** Promises 35 and 36: voices, and their trace. */
public final class VoicesTest {
    private static final Check check = new Check("VoicesTest");

    public static void main(String[] args) {
        promise35Numbers();
        promise35GoesRound();
        promise35Findings();
        promise36Traces();
        promise36Trace();
        check.end();
    }

    /** One GOING of each KIND, by its KIND's number, all of RUNNER 2 from MARK 3. */
    private static TrainMile oneOfEach() {
        TrainMile x = new TrainMile();
        x.road(6);
        x.runner(5, 0);
        x.runner(5, 0);
        x.runner(5, 0);
        x.way(304, 5, 0, 0);
        x.way(304, 5, 0, 5);
        x.going(0, 2, 300, 1);
        x.going(1, 2, 304, 1);
        x.going(2, 2, 304, 1);
        x.going(3, 2, 300, 0);
        x.going(4, 2, 300, 1);
        x.going(5, 2, 300, 1);
        x.going(6, 2, 304, 1);
        x.going(7, 2, 300, 1);
        return x;
    }

    /** With r 2 and m 3, by KIND: go, show, weigh, tell of 10. */
    private static void promise35Numbers() {
        TrainMile x = oneOfEach();
        int[][] due = {
            {13, 26, 8, 26 ^ 8},
            {13, 26, 11, 26 ^ 11},
            {14, 28, 22, 28 ^ 22},
            {13, 26 - 8, 8, 18 ^ 8},
            {11, 22 - 8, 8, (14 ^ 8) + 1},
            {13, 26, 8 ^ 13, 26 ^ 8 ^ 13},
            {13, 26, 8, 8 - (26 ^ 8)},
            {13, 32, 10, 32 ^ 10},
        };
        for (int kind = 0; kind < 8; kind++) {
            for (int act = 0; act < 4; act++) {
                check.due("voice(" + kind + ", " + act + ", 10)", x.voice(kind, act, 10), due[kind][act]);
            }
        }
    }

    private static void promise35GoesRound() {
        TrainMile x = oneOfEach();
        check.due("go", x.voice(0, 0, Integer.MAX_VALUE), Integer.MAX_VALUE + 3);
        check.due("show", x.voice(0, 1, Integer.MAX_VALUE), 4);
        check.due("weigh", x.voice(0, 2, Integer.MIN_VALUE), Integer.MAX_VALUE - 1);
        check.due("any number", x.voice(0, 2, -999999), Check.BEYOND);
        check.due("found(1): that was none", x.found(1), 0);
        check.due("any number", x.voice(0, 0, -1000005), Check.NONE);
        check.due("found(2): that was none", x.found(2), 0);
    }

    private static void promise35Findings() {
        TrainMile x = oneOfEach();
        check.due("voice(8, 0, 0)", x.voice(8, 0, 0), Check.BEYOND);
        check.due("voice(-1, 0, 0)", x.voice(-1, 0, 0), Check.BEYOND);
        check.due("voice(0, 4, 0)", x.voice(0, 4, 0), Check.BEYOND);
        check.due("voice(0, -1, 0)", x.voice(0, -1, 0), Check.BEYOND);
        check.due("told(10)", x.told(10), 0);
        check.due("found(1)", x.found(1), 4);
    }

    private static void traceIs(TrainMile x, int kind, int act, int... bodies) {
        x.voice(kind, act, 1);
        String of = "KIND " + kind + ", act " + act + ": ";
        check.due(of + "told(10)", x.told(10), bodies.length);
        for (int i = 0; i < bodies.length; i++) {
            check.due(of + "trace(" + i + ")", x.trace(i), bodies[i]);
        }
        check.due(of + "trace behind", x.trace(bodies.length), Check.NONE);
    }

    private static void promise36Traces() {
        TrainMile x = oneOfEach();
        traceIs(x, 0, 0, 10);
        traceIs(x, 0, 1, 11, 10);
        traceIs(x, 0, 2, 12);
        traceIs(x, 0, 3, 13, 11, 10, 12);
        traceIs(x, 1, 2, 20, 12);
        traceIs(x, 1, 3, 13, 11, 10, 20, 12);
        traceIs(x, 2, 0, 30, 10);
        traceIs(x, 2, 2, 31, 20, 12);
        traceIs(x, 2, 3, 13, 11, 30, 10, 31, 20, 12);
        traceIs(x, 3, 1, 40, 11, 10, 12);
        traceIs(x, 3, 3, 13, 40, 11, 10, 12, 12);
        traceIs(x, 4, 0, 51, 10);
        traceIs(x, 4, 3, 50, 13, 40, 11, 51, 10, 12, 12);
        traceIs(x, 5, 2, 60, 12, 10);
        traceIs(x, 5, 3, 13, 11, 10, 60, 12, 10);
        traceIs(x, 6, 2, 12);
        traceIs(x, 6, 3, 70, 12, 13, 11, 10, 12);
        traceIs(x, 7, 1, 80, 11, 10);
        traceIs(x, 7, 2, 81, 20, 12);
        traceIs(x, 7, 3, 13, 80, 11, 10, 81, 20, 12);
    }

    private static void promise36Trace() {
        TrainMile x = oneOfEach();
        check.due("trace(0) ahead of all", x.trace(0), Check.NONE);
        x.voice(4, 3, 5);
        check.due("told(10)", x.told(10), 8);
        x.voice(9, 3, 5);
        check.due("told(10) behind a finding", x.told(10), 8);
        check.due("trace(0) behind a finding", x.trace(0), 50);
        x.voice(0, 0, 5);
        check.due("told(10): the latest alone", x.told(10), 1);
        check.due("trace(1): the latest alone", x.trace(1), Check.NONE);
        check.due("trace(-1)", x.trace(-1), Check.NONE);
        check.due("trace of any number", x.trace(Integer.MAX_VALUE), Check.NONE);
        check.due("trace of any number", x.trace(Integer.MIN_VALUE), Check.NONE);
        x.forget(0);
        check.due("trace(0): stays behind forget", x.trace(0), 10);
        x.road(4);
        check.due("trace(0): stays behind road", x.trace(0), 10);
    }
}
