/** The boundary cases of promises 16 to 21: the race, the paces of bodies, ODDS. */
public final class RaceEdgesTest {
    private static final Check check = new Check("RaceEdgesTest");
    private static final Edge edge = new Edge(check);

    public static void main(String[] args) {
        promise16Nobody();
        promise16All();
        promise16DeafByDigits();
        promise16StartIsHeard();
        promise16DrawnWhereItIs();
        promise16MissedAtEachEnd();
        promise16MissedOfWhomItIsOn();
        promise16CarriedFrom();
        promise16CarriedLatest();
        promise16RunAgain();
        promise17Refused();
        promise17Standing();
        promise17RunningUpTo();
        promise17NoOtherGoingOnTheWay();
        promise17LatestTold();
        promise17WaysAndTrains();
        promise17SwappedBodies();
        promise17PaceLeastAndMost();
        promise17NothingChanges();
        promise18Heard();
        promise19Off();
        promise19OffAtSomeMark();
        promise20Pace();
        promise20LeastAndMost();
        promise21Refused();
        promise21OneAtLeast();
        promise21OneMoreThanMost();
        promise21AllRows();
        promise21FirstAndAhead();
        check.end();
    }

    private static TrainMile runners(int n, int... strengths) {
        TrainMile x = new TrainMile();
        x.road(n);
        for (int s : strengths) {
            x.runner(s, 0);
        }
        return x;
    }

    private static void row(TrainMile x, int runner, int... minutes) {
        for (int mark = 0; mark < minutes.length; mark++) {
            edge.due("would(" + runner + ", " + mark + ")", x.would(runner, mark), minutes[mark]);
        }
    }

    private static void heardRow(TrainMile x, int shoe, int... minutes) {
        for (int mark = 0; mark < minutes.length; mark++) {
            edge.due("heard(" + shoe + ", " + mark + ")", x.heard(shoe, mark), minutes[mark]);
        }
    }

    private static void promise16Nobody() {
        edge.says("THE RACE is run: how many SHOES are HEARD at GOAL");
        TrainMile x = new TrainMile();
        edge.due("without RUNNERS", x.race(), 0);
        edge.due("it was run", x.told(7), 1);
        edge.due("nothing was drawn", x.told(4), 1);
    }

    private static void promise16All() {
        edge.says("THE RACE: by RUNNERS");
        TrainMile x = runners(24, 1, 2, 3, 4, 5, 6, 7, 8, 9, 10, 11, 12);
        Edge.allMats(x);
        edge.due("all twelve", x.race(), 12);
        // b / 6 is 0, 1, 2, 3 for six PIECES each: 36 in all.
        for (int r = 0; r < 12; r++) {
            edge.due("SHOE " + r + " at GOAL", x.heard(r, 24), 24 * (r + 1) + 36);
            edge.due("SHOE " + r + " at MARK 7", x.heard(r, 7), 7 * (r + 1) + 1);
            edge.due("SHOE " + r + " at MARK 23", x.heard(r, 23), 23 * (r + 1) + 33);
        }
    }

    private static void promise16DeafByDigits() {
        edge.says("it is HEARD at that minute, if X modulo 10 isn't below how DEAF the MAT is");
        for (int deaf = 0; deaf <= 9; deaf++) {
            for (int digit = 0; digit <= 9; digit++) {
                TrainMile x = runners(4, 5);
                x.deaf(4, deaf);
                x.draw(Edge.beforeDigit(digit));
                String is = "DEAF by " + deaf + ", drawn " + digit;
                edge.due(is, x.race(), digit < deaf ? 0 : 1);
                edge.due(is, x.heard(0, 4), digit < deaf ? -1 : 20);
                edge.due("X modulo 10", x.told(4) % 10, digit);
            }
        }
    }

    private static void promise16StartIsHeard() {
        edge.says("(not at START: there it is HEARD, whatever DEAF tells)");
        TrainMile x = runners(4, 5, 6);
        x.deaf(0, 9);
        for (int digit = 0; digit <= 9; digit++) {
            x.draw(Edge.beforeDigit(digit));
            x.race();
            edge.due("at START", x.heard(0, 0), 0);
            edge.due("at START", x.heard(1, 0), 0);
        }
        x.draw(0);
        x.race();
        edge.due("one is drawn for each SHOE, at GOAL", x.told(4), (13849L * 25173 + 13849) % 65536);
    }

    private static long drawnTimes(int times) {
        long drawn = 1;
        for (int i = 0; i < times; i++) {
            drawn = (drawn * 25173 + 13849) % 65536;
        }
        return drawn;
    }

    private static void promise16DrawnWhereItIs() {
        edge.says("by MARKS that have a MAT at which the RUNNER on whom it is then is: X is drawn");
        TrainMile x = runners(6, 5);
        x.race();
        edge.due("at GOAL alone", x.told(4), drawnTimes(1));
        x.mat(1, true);
        x.mat(5, true);
        x.draw(1);
        x.race();
        edge.due("at three MATS", x.told(4), drawnTimes(3));
        x.way(106, 3, 0, 0);
        x.going(3, 0, 100, 0);
        x.draw(1);
        x.race();
        edge.due("not at the MAT it went around", x.told(4), drawnTimes(2));
        x.going(7, 0, 100, 0);
        x.going(7, 0, 600, 0);
        x.draw(1);
        edge.due("MISSED at both", x.race(), 0);
        edge.due("drawn all the same", x.told(4), drawnTimes(2));
        x.going(7, 0, 0, 0);
        x.draw(1);
        x.race();
        edge.due("MISSED at START: nothing is drawn there", x.told(4), drawnTimes(2));
    }

    private static void promise16MissedAtEachEnd() {
        edge.says("and no MISSED is told of that RUNNER there");
        for (int mark = 0; mark <= 4; mark++) {
            TrainMile x = runners(4, 5, 5);
            Edge.allMats(x);
            x.going(7, 0, 100 * mark + 99, -7);
            edge.due("race()", x.race(), mark == 4 ? 1 : 2);
            for (int m = 0; m <= 4; m++) {
                edge.due("MISSED at " + mark + ": heard(0, " + m + ")", x.heard(0, m), m == mark ? -1 : 5 * m);
                edge.due("MISSED at " + mark + ": heard(1, " + m + ")", x.heard(1, m), 5 * m);
            }
            edge.due("it is there all the same", x.would(0, mark), 5 * mark);
            edge.due("it isn't OFF", x.off(0), 0);
        }
    }

    private static void promise16MissedOfWhomItIsOn() {
        edge.says("the MAT there doesn't hear the RUNNER, whatever is on it");
        TrainMile x = runners(4, 5, 6);
        Edge.allMats(x);
        x.going(5, 0, 200, 1);
        x.going(7, 1, 300, 0);
        x.going(7, 0, 200, 0);
        x.race();
        heardRow(x, 0, 0, 5, 12, -1, 24);
        heardRow(x, 1, 0, 6, 12, -1, 24);
    }

    private static void promise16CarriedFrom() {
        edge.says("with the greatest MARK from that isn't above it");
        for (int from = 0; from <= 4; from++) {
            TrainMile x = runners(4, 5, 9);
            Edge.allMats(x);
            x.going(5, 0, 100 * from, 1);
            x.race();
            for (int m = 0; m <= 4; m++) {
                edge.due("CARRIED from " + from + ": heard(0, " + m + ")", x.heard(0, m), m < from ? 5 * m : 9 * m);
            }
            edge.due("it is OFF", x.off(0), 1);
            edge.due("who carries it isn't", x.off(1), 0);
        }
        edge.says("without one on its own");
        TrainMile x = runners(4, 5, 9);
        Edge.allMats(x);
        x.going(5, 1, 0, 1);
        x.race();
        heardRow(x, 0, 0, 5, 10, 15, 20);
        heardRow(x, 1, 0, 9, 18, 27, 36);
    }

    private static void promise16CarriedLatest() {
        edge.says("of several the latest");
        TrainMile x = runners(4, 5, 6, 7, 8);
        Edge.allMats(x);
        x.going(5, 0, 200, 1);
        x.going(5, 0, 200, 2);
        x.going(5, 0, 100, 3);
        x.race();
        heardRow(x, 0, 0, 8, 14, 21, 28);
        x.going(5, 0, 200, 0);
        x.race();
        heardRow(x, 0, 0, 8, 10, 15, 20);
        x.going(5, 1, 200, 3);
        x.race();
        heardRow(x, 0, 0, 8, 10, 15, 20);
        edge.says("on the RUNNER of the CARRIED (of its RUNNER)");
        x.forget(0);
        x.going(5, 0, 0, 1);
        x.going(5, 1, 0, 0);
        x.race();
        heardRow(x, 0, 0, 6, 12, 18, 24);
        heardRow(x, 1, 0, 5, 10, 15, 20);
    }

    private static void promise16RunAgain() {
        edge.says("The minute at which a SHOE was HEARD at a MARK (-1: it wasn't)");
        TrainMile x = runners(4, 5);
        Edge.allMats(x);
        x.way(4, 1, 0, 0);
        x.race();
        heardRow(x, 0, 0, 5, 10, 15, 20);
        x.going(3, 0, 0, 0);
        x.race();
        heardRow(x, 0, 0, -1, -1, -1, 1);
        edge.due("OFF", x.off(0), 1);
        x.forget(0);
        edge.due("off(0) by the latest RACE", x.off(0), 1);
        x.race();
        edge.due("off(0) by the latest RACE", x.off(0), 0);
        edge.due("told(7)", x.told(7), 3);
    }

    private static void promise17Refused() {
        edge.says("As if THE RACE were run now: the minute at which a RUNNER is at a MARK (-1: it isn't)");
        edge.in(Worlds::busy);
        edge.spans("would(%d, 0)", (x, v) -> x.would(v, 0), 0, 2);
        edge.spans("would(0, %d)", (x, v) -> x.would(0, v), 0, 8);
        edge.in(Worlds::full);
        edge.spans("would(%d, 8)", (x, v) -> x.would(v, 8), 0, 11);
        edge.in(Worlds::fresh);
        edge.refuses("would(0, 0)", x -> x.would(0, 0), Check.BEYOND);
    }

    private static void promise17Standing() {
        edge.says("it stands there for number minutes, 0 .. 99, then runs a PIECE; to isn't looked at");
        TrainMile x = runners(4, 5);
        x.going(0, 0, 99, 0);
        row(x, 0, 0, 5, 10, 15, 20);
        x.going(0, 0, 3, 99);
        row(x, 0, 0, 104, 109, 114, 119);
        x.going(0, 0, 300, 99);
        row(x, 0, 0, 104, 109, 114, 218);
    }

    private static void promise17RunningUpTo() {
        edge.says("up to MARK to number minutes more for each PIECE, 0 .. 20");
        TrainMile x = runners(4, 5);
        x.going(1, 0, 4, 0);
        row(x, 0, 0, 5, 10, 15, 20);
        x.going(1, 0, 4, 20);
        row(x, 0, 0, 25, 50, 75, 100);
        x.going(1, 0, 1, 20);
        row(x, 0, 0, 25, 30, 35, 40);
        x.going(1, 0, 304, 20);
        row(x, 0, 0, 25, 30, 35, 60);
        edge.says("2 WALKED under RUN (likewise, and twice as long)");
        x.forget(0);
        x.going(2, 0, 4, 0);
        row(x, 0, 0, 10, 20, 30, 40);
        x.going(2, 0, 1, 20);
        row(x, 0, 0, 50, 55, 60, 65);
        x.going(2, 0, 304, 20);
        row(x, 0, 0, 50, 55, 60, 110);
    }

    private static void promise17NoOtherGoingOnTheWay() {
        edge.says("who runs up to a MARK is at each on the way, and no other GOING is looked at there");
        TrainMile x = runners(6, 5);
        x.going(1, 0, 104, 1);
        x.going(0, 0, 200, 50);
        x.going(0, 0, 300, 50);
        row(x, 0, 0, 5, 11, 17, 23, 28, 33);
        x.going(0, 0, 400, 50);
        row(x, 0, 0, 5, 11, 17, 23, 78, 83);
        x.going(6, 0, 105, 0);
        row(x, 0, 0, 5, 10, 15, 20, 25, 30);
        edge.says("Who goes by a WAY (from the minute at which it leaves: at once");
        x.way(104, 2, 0, 0);
        x.going(3, 0, 100, 0);
        row(x, 0, 0, 5, -1, -1, 7, 62, 67);
    }

    private static void promise17LatestTold() {
        edge.says("if GOINGS of KINDS 0 to 4, 6 of it begin there, it does the latest that was told; else it runs a PIECE");
        TrainMile x = runners(6, 5, 6);
        x.way(2, 1, 0, 0);
        x.way(3, 1, 90, 1);
        int[][] told = {
            {0, 0, 7, 12}, {1, 1, 7, 12}, {2, 1, 7, 24}, {3, 2, 0, -1}, {4, 3, 1, -1}, {6, 1, 1, 6}, {0, 0, 9, 14},
        };
        for (int[] t : told) {
            x.going(t[0], 0, t[1], t[2]);
            edge.due("KIND " + t[0] + " is the latest", x.would(0, 1), t[3]);
        }
        x.going(5, 0, 0, 1);
        x.going(7, 0, 0, 0);
        x.going(0, 1, 0, 50);
        edge.due("KINDS 5, 7 and those of others don't matter", x.would(0, 1), 14);
        x.forget(0);
        edge.due("without any", x.would(0, 1), 5);
    }

    private static void promise17WaysAndTrains() {
        edge.says("by TRAIN the first one not ahead of then");
        TrainMile x = runners(4, 5);
        x.way(104, 3, 10, 7);
        x.going(4, 0, 100, 0);
        int[][] due = {{0, 13}, {4, 13}, {5, 13}, {6, 20}, {11, 20}, {12, 20}, {13, 27}, {99, 111}};
        for (int[] d : due) {
            x.going(0, 0, 0, d[0]);
            edge.due("there at " + (5 + d[0]), x.would(0, 4), d[1]);
        }
        edge.says("is at no MARK between");
        row(x, 0, 0, 104, -1, -1, 111);
        edge.says("FOOT (any time)");
        x.way(1, 300, 999, 0);
        x.going(3, 0, 0, 1);
        row(x, 0, 0, 300, -1, -1, 307);
        x.way(4, 1, 0, 0);
        x.going(3, 0, 0, 2);
        row(x, 0, 0, -1, -1, -1, 1);
    }

    private static void promise17SwappedBodies() {
        edge.says("SWAPPED bodies begin with 0, and the own one goes on behind it with what it had");
        TrainMile x = runners(6, 4, 9);
        Check.text(x, 0, "a+b*10+e+f");
        // Own: 4, then 4 + 10 + 4 + 4, then 4 + 20 + 4 + 22, then 88, and 99 at most.
        row(x, 0, 0, 4, 26, 76, 164, 263, 362);
        x.going(6, 0, 2, 1);
        // The other one: 9, then 9 + 10 + 9 + 9; then the own one from its first on.
        row(x, 0, 0, 9, 46, 50, 72, 122, 210);
        x.going(6, 0, 203, 1);
        row(x, 0, 0, 9, 46, 55, 59, 81, 131);
        x.forget(0);
        x.going(6, 0, 506, 0);
        edge.due("the last PIECE, for itself", x.would(0, 6), 263 + 4);
        edge.says("walked ones, too");
        x.forget(0);
        x.going(2, 0, 1, 20);
        row(x, 0, 0, 48, 70, 120);
    }

    private static void promise17PaceLeastAndMost() {
        edge.says("PACE of a PIECE, in minutes: by the law (3), 1 at least, 99 at most");
        TrainMile x = runners(24, 30);
        Check.text(x, 0, "0-9999");
        edge.due("1 each", x.would(0, 24), 24);
        Check.text(x, 0, "9999");
        edge.due("99 each", x.would(0, 24), 24 * 99);
        x.going(2, 0, 24, 20);
        edge.due("walked: 119 twice each", x.would(0, 24), 24 * 238);
        edge.says("PACE as by the law, without what GOINGS make of it");
        Check.text(x, 0, "f+1");
        x.forget(0);
        x.going(1, 0, 24, 20);
        edge.due("f is that without 20 more", x.would(0, 3), 1 + 2 + 3 + 60);
        Check.text(x, 0, "f*99+1");
        edge.due("f is 99 at most", x.would(0, 4), 1 + 99 + 99 + 99 + 80);
        edge.says("b how many PIECES that body ran already in this RACE");
        x.forget(0);
        Check.text(x, 0, "b+1");
        edge.due("up to 23", x.would(0, 24), 300);
    }

    private static void promise17NothingChanges() {
        edge.says("(Nothing changes.)");
        TrainMile x = Worlds.busy();
        Look ahead = Look.at(Worlds.busy());
        for (int r = 0; r < 3; r++) {
            for (int mark = 0; mark <= 8; mark++) {
                x.would(r, mark);
            }
        }
        String difference = ahead.difference(Look.at(x));
        edge.holds("nothing is another way: " + difference, difference == null);
    }

    private static void promise18Heard() {
        edge.says("The minute at which a SHOE was HEARD at a MARK (-1: it wasn't)");
        edge.in(Worlds::busy);
        edge.spans("heard(%d, 0)", (x, v) -> x.heard(v, 0), 0, 2);
        edge.spans("heard(0, %d)", (x, v) -> x.heard(0, v), 0, 8);
        edge.in(Worlds::full);
        edge.spans("heard(%d, 8)", (x, v) -> x.heard(v, 8), 0, 11);
        edge.takes("at minute 0 it was", x -> x.heard(0, 0), 0);
        edge.takes("where no MAT is it wasn't", x -> x.heard(0, 2), -1);
        edge.in(Worlds::fresh);
        edge.refuses("heard(0, 0)", x -> x.heard(0, 0), Check.BEYOND);
    }

    private static void promise19Off() {
        edge.says("1 if a RUNNER is OFF (by the latest RACE), else 0");
        edge.in(Worlds::busy);
        edge.spans("off(%d)", TrainMile::off, 0, 2);
        edge.in(Worlds::full);
        edge.spans("off(%d)", TrainMile::off, 0, 11);
        edge.in(Worlds::fresh);
        edge.refuses("off(0)", x -> x.off(0), Check.BEYOND);
        edge.says("A RUNNER is OFF, if in THE RACE it went by a WAY, was SWAPPED");
        TrainMile x = runners(6, 5, 5, 5, 5, 5, 5, 5, 5, 5, 5, 5, 5);
        x.way(506, 5, 0, 0);
        x.way(1, 5, 0, 1);
        x.going(3, 0, 500, 0);
        x.going(4, 1, 0, 1);
        x.going(6, 2, 1, 3);
        x.going(6, 11, 506, 11);
        x.going(1, 4, 506, 0);
        x.going(2, 5, 1, 20);
        x.going(0, 6, 0, 99);
        x.going(7, 7, 600, 0);
        x.going(6, 8, 203, 0);
        x.going(1, 8, 103, 0);
        edge.due("nobody ahead of THE RACE", x.off(0) + x.off(1) + x.off(2) + x.off(11), 0);
        x.race();
        int[] due = {1, 1, 1, 0, 0, 0, 0, 0, 0, 0, 0, 1};
        for (int r = 0; r < 12; r++) {
            edge.due("off(" + r + ")", x.off(r), due[r]);
        }
    }

    private static void promise19OffAtSomeMark() {
        edge.says("or its SHOE was on another one at some MARK (0 .. n)");
        for (int mark = 0; mark <= 4; mark++) {
            TrainMile x = runners(4, 5, 6);
            x.going(5, 0, 100 * mark, 1);
            if (mark < 4) {
                x.going(5, 0, 100 * mark + 100, 0);
            }
            x.race();
            edge.due("at " + mark + " alone, MAT or not", x.off(0), 1);
            edge.due("the other one", x.off(1), 0);
        }
        TrainMile x = runners(4, 5, 6);
        x.going(5, 0, 0, 1);
        x.going(5, 0, 0, 0);
        x.going(5, 1, 0, 1);
        x.going(5, 1, 400, 1);
        x.race();
        edge.due("at no MARK", x.off(0), 0);
        edge.due("on itself", x.off(1), 0);
    }

    private static void promise20Pace() {
        edge.says("b PIECES behind (0 .. 24), on a PIECE, with e, f (0 .. 99)");
        edge.in(Worlds::busy);
        edge.spans("pace(%d, 0, 0, 0, 0)", (x, v) -> x.pace(v, 0, 0, 0, 0), 0, 2);
        edge.spans("pace(0, %d, 0, 0, 0)", (x, v) -> x.pace(0, v, 0, 0, 0), 0, 24);
        edge.spans("pace(0, 0, %d, 0, 0)", (x, v) -> x.pace(0, 0, v, 0, 0), 0, 7);
        edge.spans("pace(0, 0, 0, %d, 0)", (x, v) -> x.pace(0, 0, 0, v, 0), 0, 99);
        edge.spans("pace(0, 0, 0, 0, %d)", (x, v) -> x.pace(0, 0, 0, 0, v), 0, 99);
        edge.in(Worlds::full);
        edge.spans("pace(%d, 24, 7, 99, 99)", (x, v) -> x.pace(v, 24, 7, 99, 99), 0, 11);
        edge.in(Worlds::fresh);
        edge.refuses("pace(0, 0, 0, 0, 0)", x -> x.pace(0, 0, 0, 0, 0), Check.BEYOND);
        edge.says("Without: a + c / 2 + b / 6");
        TrainMile x = runners(24, 1, 30);
        x.climb(23, 9);
        x.climb(0, -4);
        int[][] b = {{0, 30}, {5, 30}, {6, 31}, {11, 31}, {12, 32}, {17, 32}, {18, 33}, {23, 33}, {24, 34}};
        for (int[] is : b) {
            edge.due("b " + is[0], x.pace(1, is[0], 1, 99, 99), is[1]);
        }
        edge.due("the greatest", x.pace(1, 24, 23, 0, 0), 30 + 4 + 4);
        edge.due("-1 is 1 at least", x.pace(0, 0, 0, 0, 0), 1);
    }

    private static void promise20LeastAndMost() {
        edge.says("1 at least, 99 at most");
        String[] texts = {"0-1", "0", "1", "2", "98", "99", "100", "9999", "9999*9999*22", "0-9999*9999*21"};
        int[] due = {1, 1, 1, 2, 98, 99, 99, 99, 1, 1};
        TrainMile x = runners(4, 7);
        for (int i = 0; i < texts.length; i++) {
            Check.text(x, 0, texts[i]);
            edge.due(texts[i], x.pace(0, 0, 0, 0, 0), due[i]);
        }
        edge.says("PACE that the law tells now for STRENGTH of a RUNNER");
        x.climb(3, -4);
        x.heat(9);
        String[] names = {"a", "b", "c+9", "d", "e", "f"};
        int[] values = {7, 24, 5, 9, 98, 97};
        for (int i = 0; i < names.length; i++) {
            Check.text(x, 0, names[i]);
            edge.due(names[i], x.pace(0, 24, 3, 98, 97), values[i]);
        }
    }

    private static void promise21Refused() {
        edge.says("BEYOND: RUNNER, m (THE ROAD may be shorter), minutes below 0, what");
        edge.in(Worlds::busy);
        edge.spans("odds(%d, 1, 9, 0)", (x, v) -> x.odds(v, 1, 9, 0), 0, 2);
        edge.spans("odds(0, %d, 9, 0)", (x, v) -> x.odds(0, v, 9, 0), 1, 8);
        edge.spans("odds(0, 1, 9, %d)", (x, v) -> x.odds(0, 1, 9, v), 0, 1);
        edge.takesEach("odds(0, 1, %d, 0)", (x, v) -> x.odds(0, 1, v, 0), 0, 1, 1000, Integer.MAX_VALUE);
        edge.refusesEach("odds(0, 1, %d, 0)", (x, v) -> x.odds(0, 1, v, 0), -1, -1000, Integer.MIN_VALUE);
        edge.refusesEach("odds(0, 1, %d, 1)", (x, v) -> x.odds(0, 1, v, 1), -1, Integer.MIN_VALUE);
        for (int n : new int[] {4, 7, 8, 9, 24}) {
            edge.in(() -> runners(n, 5));
            edge.spans("odds(0, %d, 99, 0) on " + n + " PIECES", (x, v) -> x.odds(0, v, 99, 0), 1, Math.min(n, 8));
        }
        edge.in(Worlds::full);
        edge.spans("odds(%d, 8, 99, 1)", (x, v) -> x.odds(v, 8, 99, 1), 0, 11);
        edge.in(Worlds::fresh);
        edge.refuses("odds(0, 1, 9, 0)", x -> x.odds(0, 1, 9, 0), Check.BEYOND);
    }

    private static void promise21OneAtLeast() {
        edge.says("each PIECE takes PACE and one of four alike draws -1, 0, 0, 1 (1 at least)");
        TrainMile x = runners(8, 1, 2);
        Check.text(x, 0, "a");
        int three = 1;
        for (int m = 1; m <= 8; m++) {
            three *= 3;
            edge.due("all take 1, of " + m, x.odds(0, m, m, 1), three);
            edge.due("fewer minutes, of " + m, x.odds(0, m, m - 1, 0), 0);
            edge.due("all take 2, of " + m, x.odds(0, m, 2 * m, 1) > 0 ? 1 : 0, 1);
            edge.due("none takes more, of " + m, x.odds(0, m, 2 * m, 0), 1 << 2 * m);
            edge.due("just one row of the greatest, of " + m, x.odds(0, m, 2 * m, 0) - x.odds(0, m, 2 * m - 1, 0), 1);
        }
        edge.due("PACE 2: 1", x.odds(1, 1, 1, 1), 1);
        edge.due("PACE 2: 2", x.odds(1, 1, 2, 1), 2);
        edge.due("PACE 2: 3", x.odds(1, 1, 3, 1), 1);
        edge.due("PACE 2: 4", x.odds(1, 1, 4, 1), 0);
        edge.due("PACE 2: 0", x.odds(1, 1, 0, 1), 0);
    }

    private static void promise21OneMoreThanMost() {
        edge.says("that is the PACE that e and f tell of then");
        TrainMile x = runners(8, 30);
        Check.text(x, 0, "9999");
        edge.due("98", x.odds(0, 1, 98, 1), 1);
        edge.due("99", x.odds(0, 1, 99, 1), 2);
        edge.due("100", x.odds(0, 1, 100, 1), 1);
        edge.due("all", x.odds(0, 8, 800, 0), 65536);
        edge.due("all but one", x.odds(0, 8, 799, 0), 65535);
        edge.due("the least", x.odds(0, 8, 784, 0), 1);
        edge.due("fewer", x.odds(0, 8, 783, 0), 0);
        Check.text(x, 0, "(e=0)*99+(e=100)*50+(e=98)*10+(e=99)*3");
        edge.due("e 100", x.odds(0, 2, 150, 1), 2);
        edge.due("e 98", x.odds(0, 2, 108, 1), 2);
        edge.due("e 99", x.odds(0, 2, 102, 1), 4);
        Check.text(x, 0, "(f=0)*99+(f=100)*50+(f=98)*10+(f=99)*3");
        edge.due("f 100", x.odds(0, 2, 151, 1), 1);
        edge.due("f 98", x.odds(0, 2, 109, 1), 1);
        edge.due("f 99", x.odds(0, 2, 103, 1), 2);
    }

    private static void promise21AllRows() {
        edge.says("In how many of all 4 to the m rows it is there in so many minutes or fewer (0), just so many (1)");
        TrainMile x = new TrainMile();
        x.road(24);
        x.runner(9, 99);
        for (int m = 1; m <= 8; m++) {
            int tired = Math.max(0, m - 6);
            edge.due("all of " + m, x.odds(0, m, Integer.MAX_VALUE, 0), 1 << 2 * m);
            edge.due("none of " + m, x.odds(0, m, 0, 0), 0);
            edge.due("one of " + m + ", the least", x.odds(0, m, 8 * m + tired, 0), 1);
            edge.due("none of " + m + " below it", x.odds(0, m, 8 * m + tired - 1, 0), 0);
            edge.due("one of " + m + ", the greatest", x.odds(0, m, 10 * m + tired, 1), 1);
            edge.due("none of " + m + " above it", x.odds(0, m, 10 * m + tired + 1, 1), 0);
            edge.due("all but one of " + m, x.odds(0, m, 10 * m + tired - 1, 0), (1 << 2 * m) - 1);
        }
        edge.says("without its minute of beginning");
        edge.due("it begins at 99", x.odds(0, 1, 9, 1), 2);
    }

    private static void promise21FirstAndAhead() {
        edge.says("f of the one ahead (0: there was none");
        TrainMile x = runners(8, 5, 7);
        Check.text(x, 0, "20+e+f");
        edge.due("at the first there is none", x.odds(0, 1, 20, 1), 2);
        edge.due("then e and f are that one: 19 and 57 to 59", x.odds(0, 2, 19 + 57, 1), 1);
        edge.due("20 and 60: two of four, and of these two of four", x.odds(0, 2, 80, 1), 4);
        Check.text(x, 0, "20+a+(b=2)*e+(b=1)*f");
        edge.due("another RUNNER, another PACE", x.odds(1, 1, 27, 1), 2);
        edge.due("24, 48, 48: all draws -1", x.odds(0, 3, 24 + 48 + 48, 0), 1);
        edge.due("26, 52, 52: all draws 1", x.odds(0, 3, 26 + 52 + 52, 1), 1);
        x.climb(2, 9);
        Check.text(x, 0, "20+c");
        edge.due("CLIMB of its PIECE", x.odds(0, 3, 19 + 19 + 28, 0), 1);
        x.climb(2, 8);
        edge.due("CLIMB as it is now", x.odds(0, 3, 19 + 19 + 27, 0), 1);
        // 98 is the greatest but one of the PACES ahead, 1 the least: what the law tells of them differs.
        Check.text(x, 0, "(b=0)*98+(b=1)*2+(b=2)*50");
        edge.due("98 ahead of 1", x.odds(0, 3, 97 + 1 + 49, 0), 1);
        edge.due("98, 2 and 50", x.odds(0, 3, 98 + 2 + 50, 1), 20);
        edge.due("99, 3 and 51", x.odds(0, 3, 99 + 3 + 51, 1), 1);
        Check.text(x, 0, "20+c");
        edge.says("ODDS of a RUNNER to be at MARK m (1 .. 8) from START, running all");
        x.way(8, 1, 0, 0);
        x.going(3, 0, 0, 0);
        x.going(6, 0, 104, 1);
        edge.due("GOINGS don't matter", x.odds(0, 3, 19 + 19 + 27, 0), 1);
    }
}
