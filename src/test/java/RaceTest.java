/** Promises 16 to 21: the race, and the paces of bodies. */
public final class RaceTest {
    private static final Check check = new Check("RaceTest");

    public static void main(String[] args) {
        promise16Race();
        promise16RaceDraws();
        promise16RaceMissed();
        promise16RaceCarried();
        promise17WouldStandRunWalk();
        promise17WouldWays();
        promise17WouldSwapped();
        promise17WouldTires();
        promise17WouldWrong();
        promise18Heard();
        promise19Off();
        promise20Pace();
        promise21Odds();
        promise21OddsByText();
        promise21OddsWrong();
        check.end();
    }

    private static void row(TrainMile x, int runner, int... minutes) {
        for (int mark = 0; mark < minutes.length; mark++) {
            check.due("would(" + runner + ", " + mark + ")", x.would(runner, mark), minutes[mark]);
        }
    }

    private static void heardRow(TrainMile x, int shoe, int... minutes) {
        for (int mark = 0; mark < minutes.length; mark++) {
            check.due("heard(" + shoe + ", " + mark + ")", x.heard(shoe, mark), minutes[mark]);
        }
    }

    private static void allMats(TrainMile x) {
        for (int mark = 1; mark < x.told(0); mark++) {
            x.mat(mark, true);
        }
    }

    private static void promise16Race() {
        TrainMile x = new TrainMile();
        check.due("nobody", x.race(), 0);
        check.due("told(7)", x.told(7), 1);
        x.runner(5, 3);
        x.runner(6, 4);
        x.mat(1, true);
        check.due("two", x.race(), 2);
        check.due("told(7)", x.told(7), 2);
        heardRow(x, 0, 3, 8, -1, -1, 23);
        heardRow(x, 1, 4, 10, -1, -1, 28);
        x.mat(2, true);
        x.mat(1, false);
        check.due("two", x.race(), 2);
        heardRow(x, 0, 3, -1, 13, -1, 23);
    }

    /** X modulo 10 from X 1 on: 39022 is 2, 61087 is 7, 20196 is 6, 45005 is 5, 3882 is 2, 21259 is 9. */
    private static void promise16RaceDraws() {
        long drawn = 1;
        int[] due = {39022, 61087, 20196, 45005, 3882, 21259};
        for (int d : due) {
            drawn = (drawn * 25173 + 13849) % 65536;
            check.due("a draw", drawn, d);
        }
        TrainMile x = new TrainMile();
        x.runner(5, 0);
        x.runner(6, 0);
        x.mat(1, true);
        x.mat(2, true);
        x.deaf(0, 9);
        x.deaf(1, 3);
        x.deaf(2, 8);
        x.deaf(3, 9);
        x.deaf(4, 6);
        // SHOE 0: 2 is below 3, 7 below 8, 6 isn't below 6. SHOE 1: 5 isn't below 3, 2 below 8, 9 not below 6.
        check.due("race()", x.race(), 2);
        heardRow(x, 0, 0, -1, -1, -1, 20);
        heardRow(x, 1, 0, 6, -1, -1, 24);
        check.due("told(4): not drawn at START, nor where no MAT is", x.told(4), 21259);
        x.draw(1);
        x.way(3, 4, 0, 0);
        x.going(3, 0, 0, 0);
        // SHOE 0 is at GOAL alone: 2. SHOE 1: 7 at 1, 6 at 2, 5 at GOAL.
        check.due("race()", x.race(), 0);
        heardRow(x, 0, 0, -1, -1, -1, -1);
        heardRow(x, 1, 0, 6, -1, -1, -1);
        check.due("told(4): not drawn where it isn't", x.told(4), 45005);
        x.deaf(4, 5);
        x.draw(1);
        check.due("as deaf as the draw", x.race(), 1);
        check.due("heard(1, 4)", x.heard(1, 4), 24);
    }

    private static void promise16RaceMissed() {
        TrainMile x = new TrainMile();
        x.runner(5, 0);
        x.runner(6, 0);
        allMats(x);
        x.going(7, 0, 200, 0);
        x.going(7, 1, 400, 0);
        check.due("race()", x.race(), 1);
        heardRow(x, 0, 0, 5, -1, 15, 20);
        heardRow(x, 1, 0, 6, 12, 18, -1);
        TrainMile y = new TrainMile();
        y.runner(5, 0);
        y.runner(6, 0);
        allMats(y);
        y.race();
        check.due("MISSED draws as well", x.told(4), y.told(4));
        check.due("MISSED isn't OFF", x.off(0), 0);
        row(x, 0, 0, 5, 10, 15, 20);
        x.forget(0);
        x.going(7, 0, 0, 0);
        x.race();
        check.due("MISSED at START, too", x.heard(0, 0), -1);
        check.due("the other one", x.heard(1, 0), 0);
    }

    private static void promise16RaceCarried() {
        TrainMile x = new TrainMile();
        x.road(6);
        x.runner(5, 10);
        x.runner(2, 1);
        x.runner(7, 2);
        allMats(x);
        x.going(5, 0, 300, 2);
        x.going(5, 0, 200, 1);
        x.going(5, 0, 400, 1);
        x.going(5, 0, 400, 0);
        x.race();
        // Own up to 1, on 1 at 2, on 2 at 3, and from 4 on on its own again: the latest of both.
        heardRow(x, 0, 10, 15, 5, 23, 30, 35, 40);
        heardRow(x, 1, 1, 3, 5, 7, 9, 11, 13);
        check.due("off(0)", x.off(0), 1);
        check.due("off(1)", x.off(1), 0);
        row(x, 0, 10, 15, 20, 25, 30, 35, 40);
        // A MISSED of the RUNNER on whom it is counts, that of its own doesn't.
        x.going(7, 0, 200, 0);
        x.going(7, 2, 300, 0);
        x.race();
        heardRow(x, 0, 10, 15, 5, -1, 30, 35, 40);
        heardRow(x, 2, 2, 9, 16, -1, 30, 37, 44);
        // The SHOE of one whose SHOE is carried: on the RUNNER, not with that SHOE.
        x.forget(0);
        x.going(5, 0, 0, 1);
        x.going(5, 1, 0, 2);
        x.race();
        heardRow(x, 0, 1, 3, 5, 7, 9, 11, 13);
        heardRow(x, 1, 2, 9, 16, 23, 30, 37, 44);
        // Where the RUNNER on whom it is isn't, it isn't HEARD.
        x.way(105, 1, 0, 0);
        x.going(3, 1, 100, 0);
        x.race();
        heardRow(x, 0, 1, 3, -1, -1, -1, 4, 6);
    }

    private static void promise17WouldStandRunWalk() {
        TrainMile x = new TrainMile();
        x.road(8);
        x.runner(4, 10);
        x.climb(4, 9);
        row(x, 0, 10, 14, 18, 22, 26, 34, 38, 43, 48);
        x.going(0, 0, 100, 99);
        row(x, 0, 10, 14, 117, 121, 125, 133, 137, 142, 147);
        x.going(1, 0, 205, 20);
        row(x, 0, 10, 14, 117, 141, 165, 193, 197, 202, 207);
        x.going(2, 0, 405, 3);
        row(x, 0, 10, 14, 117, 141, 165, 193, 197, 202, 207);
        x.going(0, 0, 500, 1);
        row(x, 0, 10, 14, 117, 141, 165, 193, 198, 203, 208);
        x.going(2, 0, 204, 3);
        row(x, 0, 10, 14, 117, 131, 145, 167, 172, 177, 182);
        x.going(5, 0, 200, 0);
        x.going(7, 0, 200, 0);
        row(x, 0, 10, 14, 117, 131, 145, 167, 172, 177, 182);
        check.due("told(7)", x.told(7), 0);
        check.due("told(4)", x.told(4), 1);
        check.due("heard(0, 0)", x.heard(0, 0), -1);
        check.due("off(0)", x.off(0), 0);
    }

    private static void promise17WouldWays() {
        TrainMile x = new TrainMile();
        x.road(9);
        x.runner(4, 0);
        x.runner(6, 0);
        x.way(103, 50, 7, 0);
        x.way(306, 5, 60, 10);
        x.way(608, 2, 80, 1);
        x.going(3, 0, 100, 0);
        // It ran one PIECE ahead of the WAY, five behind it: the seventh would be slower.
        row(x, 0, 0, 4, -1, 54, 58, 62, 66, 70, 74, 79);
        x.going(4, 0, 300, 1);
        row(x, 0, 0, 4, -1, 54, -1, -1, 65, 69, 73, 77);
        x.going(4, 0, 600, 2);
        row(x, 0, 0, 4, -1, 54, -1, -1, 65, -1, 82, 86);
        x.going(0, 0, 100, 6);
        x.going(3, 0, 100, 0);
        x.going(0, 0, 0, 7);
        row(x, 0, 0, 11, -1, 61, -1, -1, 75, -1, 82, 86);
        x.going(0, 0, 0, 6);
        row(x, 0, 0, 10, -1, 60, -1, -1, 65, -1, 82, 86);
        row(x, 1, 0, 6, 12, 18, 24, 30, 36, 43, 50, 57);
    }

    private static void promise17WouldSwapped() {
        TrainMile x = new TrainMile();
        x.road(12);
        x.runner(4, 0);
        x.runner(9, 50);
        Check.text(x, 0, "a*10+b");
        x.going(6, 0, 307, 1);
        // 40, 41, 42, then the other one 90, 91, 92, 93, then the own one goes on with 43.
        row(x, 0, 0, 40, 81, 123, 213, 304, 396, 489, 532, 576, 621, 667, 714);
        x.going(6, 0, 708, 1);
        x.going(6, 0, 809, 1);
        row(x, 0, 0, 40, 81, 123, 213, 304, 396, 489, 579, 669, 712, 756, 801);
        x.forget(1);
        Check.text(x, 0, "e+f+a");
        // Own 4, 12, 20; other 9, 27, 45, 63; own 28, 36, 44, 52, 60.
        row(x, 0, 0, 4, 16, 36, 45, 72, 117, 180, 208, 244, 288, 340, 400);
        x.going(6, 0, 307, 0);
        row(x, 0, 0, 4, 16, 36, 40, 52, 72, 100, 128, 164, 208, 260, 320);
        row(x, 1, 50, 59, 86, 131, 194, 275, 374, 473, 572, 671, 770, 869, 968);
    }

    private static void promise17WouldTires() {
        TrainMile x = new TrainMile();
        x.road(8);
        x.runner(3, 0);
        Check.text(x, 0, "a+b");
        x.going(2, 0, 2, 1);
        // Walked ones tire, too; e and f tell of PACE without what GOINGS make of it.
        row(x, 0, 0, 8, 18, 23, 29, 36, 44, 53, 63);
        Check.text(x, 0, "a+f");
        row(x, 0, 0, 8, 22, 31, 43, 58, 76, 97, 121);
        Check.text(x, 0, "a+e");
        row(x, 0, 0, 8, 22, 28, 34, 40, 46, 52, 58);
    }

    private static void promise17WouldWrong() {
        TrainMile x = new TrainMile();
        check.due("would(0, 0) of nobody", x.would(0, 0), Check.BEYOND);
        x.runner(3, 0);
        check.due("would(1, 0)", x.would(1, 0), Check.BEYOND);
        check.due("would(-1, 0)", x.would(-1, 0), Check.BEYOND);
        check.due("would(0, 5)", x.would(0, 5), Check.BEYOND);
        check.due("would(0, -1)", x.would(0, -1), Check.BEYOND);
        check.due("would(0, 4)", x.would(0, 4), 12);
    }

    private static void promise18Heard() {
        TrainMile x = new TrainMile();
        x.runner(3, 2);
        check.due("heard(0, 4) ahead of THE RACE", x.heard(0, 4), -1);
        x.race();
        check.due("heard(0, 4)", x.heard(0, 4), 14);
        x.going(0, 0, 0, 9);
        x.climb(0, 9);
        check.due("heard(0, 4): as it was run", x.heard(0, 4), 14);
        x.race();
        check.due("heard(0, 4): run again", x.heard(0, 4), 27);
        check.due("heard(1, 0)", x.heard(1, 0), Check.BEYOND);
        check.due("heard(-1, 0)", x.heard(-1, 0), Check.BEYOND);
        check.due("heard(0, 5)", x.heard(0, 5), Check.BEYOND);
        check.due("heard(0, -1)", x.heard(0, -1), Check.BEYOND);
    }

    private static void promise19Off() {
        TrainMile x = new TrainMile();
        x.road(6);
        for (int i = 0; i < 9; i++) {
            x.runner(5, 0);
        }
        x.way(104, 3, 0, 0);
        x.way(105, 3, 0, 9);
        x.going(0, 0, 0, 5);
        x.going(1, 0, 103, 5);
        x.going(2, 0, 305, 5);
        x.going(7, 0, 200, 0);
        x.going(3, 1, 100, 0);
        x.going(4, 2, 100, 1);
        x.going(6, 3, 304, 0);
        x.going(5, 4, 600, 0);
        x.going(5, 5, 0, 5);
        x.going(5, 6, 0, 0);
        x.going(5, 6, 0, 6);
        // RUNNER 7 is never at 2, where it would be SWAPPED, nor does it ride.
        x.going(1, 7, 4, 0);
        x.going(6, 7, 203, 0);
        x.going(4, 7, 100, 1);
        x.going(5, 8, 300, 0);
        x.going(5, 8, 400, 8);
        check.due("off(1) ahead of THE RACE", x.off(1), 0);
        x.race();
        int[] due = {0, 1, 1, 1, 1, 0, 0, 0, 1};
        for (int i = 0; i < 9; i++) {
            check.due("off(" + i + ")", x.off(i), due[i]);
        }
        x.forget(0);
        check.due("off(1) by the latest RACE", x.off(1), 1);
        x.race();
        check.due("off(1)", x.off(1), 0);
        x.going(6, 0, 102, 0);
        x.race();
        check.due("off(0): SWAPPED for itself", x.off(0), 1);
        check.due("off(9)", x.off(9), Check.BEYOND);
        check.due("off(-1)", x.off(-1), Check.BEYOND);
    }

    private static void promise20Pace() {
        TrainMile x = new TrainMile();
        x.runner(10, 0);
        x.runner(1, 0);
        x.climb(1, -4);
        x.climb(2, 9);
        x.heat(3);
        check.due("a + c / 2 + b / 6", x.pace(0, 0, 0, 0, 0), 10);
        check.due("b 5", x.pace(0, 5, 0, 0, 0), 10);
        check.due("b 6", x.pace(0, 6, 0, 99, 99), 11);
        check.due("b 24", x.pace(0, 24, 2, 0, 0), 18);
        check.due("1 at least", x.pace(1, 0, 1, 0, 0), 1);
        Check.text(x, 0, "b*100+c*10");
        check.due("99 at most", x.pace(0, 24, 2, 0, 0), 99);
        check.due("just 90", x.pace(0, 0, 2, 0, 0), 90);
        check.due("1 at least", x.pace(0, 0, 1, 0, 0), 1);
        check.due("1 at least: 0", x.pace(0, 0, 0, 0, 0), 1);
        Check.text(x, 0, "a+b+c+d");
        check.due("10 + 7 + 9 + 3", x.pace(0, 7, 2, 0, 0), 29);
        check.due("1 + 7 - 4 + 3", x.pace(1, 7, 1, 0, 0), 7);
        Check.text(x, 0, "e-f");
        check.due("e - f", x.pace(0, 0, 0, 99, 2), 97);
        check.due("e - f", x.pace(0, 0, 0, 0, 99), 1);
        int[][] wrong = {
            {2, 0, 0, 0, 0}, {-1, 0, 0, 0, 0}, {0, -1, 0, 0, 0}, {0, 25, 0, 0, 0}, {0, 0, 4, 0, 0},
            {0, 0, -1, 0, 0}, {0, 0, 0, -1, 0}, {0, 0, 0, 100, 0}, {0, 0, 0, 0, -1}, {0, 0, 0, 0, 100},
        };
        for (int[] w : wrong) {
            check.due("pace(" + w[0] + ", " + w[1] + ", " + w[2] + ", " + w[3] + ", " + w[4] + ")",
                    x.pace(w[0], w[1], w[2], w[3], w[4]), Check.BEYOND);
        }
    }

    private static void promise21Odds() {
        TrainMile x = new TrainMile();
        x.road(10);
        x.runner(5, 50);
        x.runner(1, 0);
        // Of two: 8 1, 9 4, 10 6, 11 4, 12 1; the minute of beginning doesn't matter.
        int[] just = {0, 1, 4, 6, 4, 1, 0};
        int all = 0;
        for (int i = 0; i < just.length; i++) {
            all += just[i];
            check.due("odds(0, 2, " + (7 + i) + ", 1)", x.odds(0, 2, 7 + i, 1), just[i]);
            check.due("odds(0, 2, " + (7 + i) + ", 0)", x.odds(0, 2, 7 + i, 0), all);
        }
        check.due("1 at least: 1 thrice, 2 once", x.odds(1, 1, 1, 0), 3);
        check.due("1 at least: 1 thrice, 2 once", x.odds(1, 1, 2, 1), 1);
        check.due("1 at least, two", x.odds(1, 2, 2, 1), 9);
        check.due("minutes 0", x.odds(1, 2, 0, 0), 0);
        check.due("eight, all", x.odds(0, 8, Integer.MAX_VALUE, 0), 65536);
        check.due("eight, none just so", x.odds(0, 8, Integer.MAX_VALUE, 1), 0);
        // The seventh and the eighth take a minute more: 42 in the middle, 16 over 8 choices of 16.
        check.due("eight, the middle", x.odds(0, 8, 42, 1), 12870);
        check.due("eight, the least", x.odds(0, 8, 34, 0), 1);
        check.due("eight, the greatest", x.odds(0, 8, 50, 1), 1);
        x.climb(0, 9);
        check.due("CLIMB counts", x.odds(0, 1, 9, 1), 2);
        x.going(0, 0, 0, 30);
        check.due("running all: GOINGS don't matter", x.odds(0, 1, 9, 1), 2);
        check.due("nothing is drawn", x.told(4), 1);
    }

    private static void promise21OddsByText() {
        TrainMile x = new TrainMile();
        x.runner(5, 0);
        Check.text(x, 0, "5+f");
        // 4 with 8, 9, 9, 10, twice 5 with 9, 10, 10, 11, and 6 with 10, 11, 11, 12.
        int[] just = {0, 1, 2, 3, 4, 3, 2, 1, 0};
        for (int i = 0; i < just.length; i++) {
            check.due("odds(0, 2, " + (11 + i) + ", 1)", x.odds(0, 2, 11 + i, 1), just[i]);
        }
        Check.text(x, 0, "99");
        check.due("99 and 1 more", x.odds(0, 2, 200, 1), 1);
        check.due("99 and 1 more", x.odds(0, 2, 199, 1), 4);
        x.road(8);
        check.due("eight of 99, the middle", x.odds(0, 8, 792, 1), 12870);
        check.due("eight of 99 and 1 more", x.odds(0, 8, 800, 1), 1);
        Check.text(x, 0, "99-(f>99)*50");
        check.due("f may be 100", x.odds(0, 2, 148, 1), 1);
        check.due("f may be 100", x.odds(0, 2, 149, 1), 2);
        Check.text(x, 0, "10+(e=11)*20+(b=2)*5");
        check.due("e is that of the first", x.odds(0, 3, 11 + 31 + 36, 1), 1);
        check.due("e is that of the first", x.odds(0, 3, 11 + 29 + 34, 1), 1);
        check.due("e is that of the first", x.odds(0, 3, 9 + 9 + 14, 0), 1);
    }

    private static void promise21OddsWrong() {
        TrainMile x = new TrainMile();
        x.runner(5, 0);
        int[][] wrong = {
            {1, 1, 9, 0}, {-1, 1, 9, 0}, {0, 0, 9, 0}, {0, -1, 9, 0}, {0, 5, 9, 0}, {0, 1, -1, 0},
            {0, 1, 9, 2}, {0, 1, 9, -1},
        };
        for (int[] w : wrong) {
            check.due("odds(" + w[0] + ", " + w[1] + ", " + w[2] + ", " + w[3] + ")",
                    x.odds(w[0], w[1], w[2], w[3]), Check.BEYOND);
        }
        check.due("odds(0, 4, 20, 0)", x.odds(0, 4, 20, 0) > 0 ? 1 : 0, 1);
        x.road(24);
        check.due("odds(0, 9, 99, 0)", x.odds(0, 9, 99, 0), Check.BEYOND);
        check.due("odds(0, 8, 999, 0)", x.odds(0, 8, 999, 0), 65536);
    }
}
