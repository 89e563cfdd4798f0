/** Promises 24 to 32: what times tell. */
public final class TimesTest {
    private static final Check check = new Check("TimesTest");

    public static void main(String[] args) {
        promise24Least();
        promise25Gap();
        promise25GapOnFoot();
        promise25GapByWays();
        promise25GapWrong();
        promise26Company();
        promise26CompanyOfHeardAlone();
        promise27Misses();
        promise28Parts();
        promise28PartsBits();
        promise28PartsFindings();
        promise29Odd();
        promise29OddNames();
        promise30Judge();
        promise31Place();
        promise32Up();
        check.end();
    }

    private static void allMats(TrainMile x) {
        for (int mark = 1; mark < x.told(0); mark++) {
            x.mat(mark, true);
        }
    }

    private static void promise24Least() {
        TrainMile x = new TrainMile();
        check.due("least(30)", x.least(30), 3);
        check.due("least(31)", x.least(31), Check.BEYOND);
        check.due("least(0)", x.least(0), Check.BEYOND);
        check.due("told(8)", x.told(8), 30);
        check.due("least(1)", x.least(1), 30);
        check.due("least(1)", x.least(1), 1);
    }

    private static void gapRow(TrainMile x, int shoe, int i, int... due) {
        for (int what = 0; what < due.length; what++) {
            check.due("gap(" + shoe + ", " + i + ", " + what + ")", x.gap(shoe, i, what), due[what]);
        }
    }

    private static void promise25Gap() {
        TrainMile x = new TrainMile();
        x.road(8);
        x.runner(5, 4);
        check.due("ahead of THE RACE", x.gap(0, 0, 0), Check.NONE);
        x.mat(3, true);
        x.mat(4, true);
        x.race();
        gapRow(x, 0, 0, 0, 3, 15, 1, 0);
        gapRow(x, 0, 1, 3, 4, 5, 1, 0);
        gapRow(x, 0, 2, 4, 8, 22, 1, 0);
        check.due("gap(0, 3, 0)", x.gap(0, 3, 0), Check.NONE);
        check.due("gap(0, -1, 0)", x.gap(0, -1, 0), Check.NONE);
        check.due("gap of any number", x.gap(0, Integer.MAX_VALUE, 2), Check.NONE);
        x.going(7, 0, 0, 0);
        x.going(7, 0, 800, 0);
        x.race();
        gapRow(x, 0, 0, 3, 4, 5, 1, 0);
        check.due("gap(0, 1, 0)", x.gap(0, 1, 0), Check.NONE);
        x.going(7, 0, 400, 0);
        x.race();
        check.due("HEARD once: no GAP", x.gap(0, 0, 0), Check.NONE);
        TrainMile y = new TrainMile();
        y.runner(30, 9);
        y.runner(1, 0);
        y.going(5, 0, 100, 1);
        y.race();
        gapRow(y, 0, 0, 0, 4, -5, 0, 0);
    }

    private static void promise25GapOnFoot() {
        TrainMile x = new TrainMile();
        x.runner(5, 0);
        x.mat(2, true);
        x.race();
        x.least(5);
        check.due("just LEAST", x.gap(0, 0, 3), 1);
        x.least(6);
        check.due("below LEAST", x.gap(0, 0, 3), 0);
        x.climb(0, 3);
        x.race();
        check.due("11 minutes, 6 each", x.gap(0, 0, 3), 0);
        x.climb(0, 4);
        x.race();
        check.due("12 minutes, 6 each", x.gap(0, 0, 3), 1);
        check.due("the second one: 10", x.gap(0, 1, 3), 0);
    }

    private static void promise25GapByWays() {
        TrainMile x = new TrainMile();
        x.road(6);
        x.runner(5, 3);
        x.race();
        check.due("33 - 3 minutes, no WAYS", x.gap(0, 0, 4), 0);
        x.way(102, 22, 0, 0);
        x.least(2);
        check.due("2 + 22 + 8 are 32", x.gap(0, 0, 4), 0);
        x.way(102, 20, 0, 0);
        check.due("2 + 20 + 8 are 30", x.gap(0, 0, 4), 1);
        x.least(3);
        check.due("3 + 20 + 12", x.gap(0, 0, 4), 0);
        x.way(206, 9, 16, 9);
        check.due("at 2 by 9, train at 16 to 25", x.gap(0, 0, 4), 1);
        x.least(7);
        check.due("at 2 by 17, train at 25 to 34", x.gap(0, 0, 4), 0);
        x.way(2, 13, 0, 0);
        check.due("at 2 by 16, by two", x.gap(0, 0, 4), 1);
        TrainMile y = new TrainMile();
        y.runner(1, 0);
        y.race();
        y.least(1);
        check.due("4 minutes, on foot they may be", y.gap(0, 0, 3), 1);
        check.due("but by WAYS not", y.gap(0, 0, 4), 0);
        y.way(1, 1, 0, 0);
        check.due("with one WAY that takes as long", y.gap(0, 0, 4), 1);
    }

    private static void promise25GapWrong() {
        TrainMile x = new TrainMile();
        check.due("no SHOE", x.gap(0, 0, 0), Check.BEYOND);
        x.runner(5, 0);
        check.due("gap(1, 0, 0)", x.gap(1, 0, 0), Check.BEYOND);
        check.due("gap(-1, 0, 0)", x.gap(-1, 0, 0), Check.BEYOND);
        check.due("gap(0, 0, 5)", x.gap(0, 0, 5), Check.BEYOND);
        check.due("gap(0, 0, -1)", x.gap(0, 0, -1), Check.BEYOND);
        check.due("BEYOND ahead of NONE", x.gap(0, -1, 5), Check.BEYOND);
        check.due("found(2)", x.found(2), 0);
    }

    private static void promise26Company() {
        TrainMile x = new TrainMile();
        check.due("nobody", x.company(30, 0), 0);
        x.runner(5, 0);
        x.runner(5, 2);
        x.runner(6, 2);
        x.runner(5, 40);
        check.due("ahead of THE RACE", x.company(30, 1), 0);
        x.race();
        // From START and at GOAL: 0 20, 2 22, 2 26, 40 60.
        check.due("within 0", x.company(0, 0), 0);
        check.due("within 1", x.company(1, 1), 0);
        check.due("within 2: 0 and 1", x.company(2, 0), 1);
        check.due("within 2", x.company(2, 1), 3);
        check.due("within 3", x.company(3, 0), 1);
        check.due("within 4: 1 and 2, too", x.company(4, 0), 2);
        check.due("within 4", x.company(4, 1), 7);
        check.due("within 5", x.company(5, 0), 2);
        check.due("within 6: 0 and 2, too", x.company(6, 0), 3);
        check.due("within 30", x.company(30, 0), 3);
        check.due("within 30", x.company(30, 1), 7);
        check.due("company(31, 0)", x.company(31, 0), Check.BEYOND);
        check.due("company(-1, 0)", x.company(-1, 0), Check.BEYOND);
        check.due("company(0, 2)", x.company(0, 2), Check.BEYOND);
        check.due("company(0, -1)", x.company(0, -1), Check.BEYOND);
    }

    private static void promise26CompanyOfHeardAlone() {
        TrainMile x = new TrainMile();
        x.runner(5, 0);
        x.runner(5, 0);
        x.runner(9, 0);
        allMats(x);
        x.race();
        check.due("two", x.company(0, 1), 3);
        // Where one of them isn't HEARD doesn't matter; two MARKS both must be.
        x.going(7, 0, 0, 0);
        x.going(7, 0, 100, 0);
        x.going(7, 1, 200, 0);
        x.race();
        check.due("both at 3 and 4", x.company(0, 1), 3);
        x.going(7, 1, 300, 0);
        x.race();
        check.due("both at 4 alone", x.company(0, 1), 0);
        // Apart only where both are HEARD.
        x.forget(0);
        x.climb(1, 9);
        x.going(0, 0, 200, 4);
        x.going(6, 1, 203, 2);
        x.race();
        check.due("both stand at 2, the one for 4, the other takes 4 more", x.company(0, 1), 3);
        x.forget(1);
        x.race();
        check.due("4 apart at the end", x.company(3, 0), 0);
        check.due("4 apart at the end", x.company(4, 0), 1);
        x.going(7, 0, 300, 0);
        x.going(7, 1, 400, 0);
        x.race();
        check.due("apart where not both are HEARD", x.company(0, 1), 3);
    }

    private static void promise27Misses() {
        TrainMile x = new TrainMile();
        x.road(6);
        x.runner(5, 0);
        x.runner(5, 1);
        x.runner(5, 2);
        check.due("ahead of THE RACE", x.misses(3, 1), 0);
        allMats(x);
        x.mat(5, false);
        x.going(7, 0, 300, 0);
        x.going(7, 1, 300, 0);
        x.going(7, 1, 400, 0);
        x.going(7, 1, 600, 0);
        x.going(7, 2, 0, 0);
        x.going(7, 2, 100, 0);
        x.race();
        // 0: 0 1 2 . 4 6. 1: 0 1 2 . . . 2: . . 2 3 4 6.
        int[][] due = {{0, 2}, {0, 1}, {1, 2}, {0, 2}, {2, 2}};
        for (int mark = 1; mark < 6; mark++) {
            check.due("misses(" + mark + ", 0)", x.misses(mark, 0), due[mark - 1][0]);
            check.due("misses(" + mark + ", 1)", x.misses(mark, 1), due[mark - 1][1]);
        }
        check.due("misses(0, 0)", x.misses(0, 0), Check.BEYOND);
        check.due("misses(6, 0)", x.misses(6, 0), Check.BEYOND);
        check.due("misses(-1, 0)", x.misses(-1, 0), Check.BEYOND);
        check.due("misses(7, 0)", x.misses(7, 0), Check.BEYOND);
        check.due("misses(1, 2)", x.misses(1, 2), Check.BEYOND);
        check.due("misses(1, -1)", x.misses(1, -1), Check.BEYOND);
    }

    private static void row(TrainMile x, int sheet, int bits, int... numbers) {
        x.sheet(sheet, bits, numbers.length);
        for (int i = 0; i < numbers.length; i++) {
            x.put(sheet, i, numbers[i]);
        }
    }

    private static void partsRow(TrainMile x, int sheet, long place, long broken, long whole) {
        check.due("parts(" + sheet + ", 0)", x.parts(sheet, 0), place);
        check.due("parts(" + sheet + ", 1)", x.parts(sheet, 1), broken);
        check.due("parts(" + sheet + ", 2)", x.parts(sheet, 2), whole);
    }

    private static void promise28Parts() {
        TrainMile x = new TrainMile();
        row(x, 0, 16, 5, 5);
        partsRow(x, 0, 1, 0, 0);
        row(x, 0, 16, 5, 9);
        partsRow(x, 0, 1, 0, 4);
        row(x, 0, 16, 5, 5, 5, 9, 9);
        partsRow(x, 0, 3, 0, 8);
        row(x, 0, 16, 5, 9, 9, 9, 9);
        partsRow(x, 0, 1, 0, 4);
        row(x, 0, 16, 9, 9, 9, 9, 5);
        partsRow(x, 0, 4, 0, 4);
        // 1: 0 and 1 off; 2: 1 and 0 off; the first of both.
        row(x, 0, 16, 1, 2, 3);
        partsRow(x, 0, 1, 1, 2);
        // The whole: 3 is the lesser middle of 1 3 8 10, 2 + 0 + 5 + 7.
        row(x, 0, 16, 10, 1, 8, 3);
        partsRow(x, 0, 1, 7, 14);
        row(x, 3, 8, 7, 6, 7, 4, 3, 5, 4, 4);
        partsRow(x, 3, 3, 1 + 2, 3 + 2 + 3 + 0 + 1 + 1 + 0 + 0);
        int[] most = new int[24];
        for (int i = 0; i < 24; i++) {
            most[i] = i < 11 ? Integer.MIN_VALUE : Integer.MAX_VALUE;
        }
        row(x, 2, 32, most);
        partsRow(x, 2, 11, 0, 11L * 4294967295L);
    }

    private static void promise28PartsBits() {
        TrainMile x = new TrainMile();
        row(x, 0, 8, 127, 128);
        partsRow(x, 0, 1, 0, 255);
        row(x, 0, 16, 32767, 32768);
        partsRow(x, 0, 1, 0, 65535);
        row(x, 0, 32, Integer.MAX_VALUE, Integer.MIN_VALUE);
        partsRow(x, 0, 1, 0, 4294967295L);
        row(x, 0, 8, 256, 513);
        partsRow(x, 0, 1, 0, 1);
        row(x, 0, 16, 256, 513);
        partsRow(x, 0, 1, 0, 257);
    }

    private static void promise28PartsFindings() {
        TrainMile x = new TrainMile();
        check.due("parts(4, 0)", x.parts(4, 0), Check.BEYOND);
        check.due("parts(-1, 0)", x.parts(-1, 0), Check.BEYOND);
        check.due("parts(0, 3), BEYOND ahead of NONE", x.parts(0, 3), Check.BEYOND);
        check.due("parts(0, -1)", x.parts(0, -1), Check.BEYOND);
        check.due("missing", x.parts(0, 2), Check.NONE);
        x.sheet(0, 8, 1);
        check.due("one number", x.parts(0, 0), Check.STATE);
        check.due("one number", x.parts(0, 2), Check.STATE);
        x.sheet(0, 32, 0);
        check.due("no number", x.parts(0, 1), Check.STATE);
        check.due("BEYOND ahead of STATE", x.parts(0, 3), Check.BEYOND);
        x.sheet(0, 0, 0);
        check.due("missing again", x.parts(0, 1), Check.NONE);
        check.due("found(1)", x.found(1), 5);
        check.due("found(2)", x.found(2), 2);
        check.due("found(3)", x.found(3), 3);
    }

    private static void promise29Odd() {
        TrainMile x = new TrainMile();
        x.road(5);
        x.runner(5, 7);
        x.mat(2, true);
        check.due("ahead of THE RACE", x.odd(0), 0);
        x.race();
        check.due("10 and 15", x.odd(0), 0);
        x.climb(0, 9);
        x.race();
        check.due("14 and 15", x.odd(0), 0);
        x.climb(1, 2);
        x.race();
        check.due("15 and 15", x.odd(0), 0);
        x.climb(1, 4);
        x.race();
        check.due("16 and 15", x.odd(0), 1);
        x.mat(2, false);
        check.due("the MAT is gone, it was HEARD", x.odd(0), 1);
        x.race();
        check.due("not HEARD between", x.odd(0), 0);
        x.mat(2, true);
        x.going(7, 0, 0, 0);
        x.race();
        check.due("a is -1", x.odd(0), 0);
        x.forget(0);
        x.going(7, 0, 500, 0);
        x.race();
        check.due("b is -1", x.odd(0), 0);
        check.due("odd(1)", x.odd(1), Check.BEYOND);
        check.due("odd(-1)", x.odd(-1), Check.BEYOND);
        Check.text(x, 1, "0-1000*1000-1");
        check.due("what looks like a finding", x.odd(0), Check.BEYOND);
        check.due("found(1): isn't one", x.found(1), 2);
    }

    private static void oddAs(TrainMile x, String text, int shoe, int due) {
        check.due("text " + text, Check.text(x, 1, text), 1);
        check.due("odd(" + shoe + ") as " + text, x.odd(shoe), due);
    }

    private static void promise29OddNames() {
        TrainMile x = new TrainMile();
        x.road(5);
        x.runner(5, 7);
        x.runner(5, 6);
        x.runner(5, 8);
        x.runner(8, 0);
        allMats(x);
        x.climb(4, 9);
        x.going(7, 0, 100, 0);
        x.race();
        oddAs(x, "a", 0, 10);
        oddAs(x, "b", 0, 19);
        oddAs(x, "c", 0, 1);
        oddAs(x, "d", 0, 29);
        oddAs(x, "e", 0, 2);
        oddAs(x, "e", 1, 1);
        oddAs(x, "e", 3, 0);
        oddAs(x, "f", 0, 5);
        oddAs(x, "f", 3, 8);
        oddAs(x, "c", 1, 0);
        x.mat(4, false);
        x.race();
        oddAs(x, "c", 0, 1);
        x.mat(4, true);
        oddAs(x, "c", 0, 2);
        x.mat(1, false);
        oddAs(x, "c", 0, 1);
        x.going(7, 0, 0, 0);
        x.race();
        oddAs(x, "a", 0, -1);
        oddAs(x, "b", 0, 19);
        oddAs(x, "d", 0, -1);
        oddAs(x, "c", 0, 1);
        x.forget(0);
        x.going(7, 0, 500, 0);
        x.race();
        oddAs(x, "a", 0, 10);
        oddAs(x, "b", 0, -1);
        oddAs(x, "d", 0, -1);
        x.forget(0);
        x.going(7, 0, 200, 0);
        x.race();
        oddAs(x, "a", 0, -1);
        oddAs(x, "b", 0, -1);
        oddAs(x, "d", 0, 29);
    }

    private static void promise30Judge() {
        TrainMile x = new TrainMile();
        for (int what = 0; what < 4; what++) {
            check.due("nobody, judge(" + what + ")", x.judge(what), 0);
        }
        for (int i = 1; i <= 10; i++) {
            x.runner(i, 0);
        }
        x.way(2, 1, 0, 0);
        for (int i = 0; i < 6; i++) {
            x.going(3, i, 0, 0);
        }
        Check.text(x, 1, "(f>4&f<8)*(0-5)");
        check.due("ahead of THE RACE: ODD, none OFF", x.judge(1), 3);
        check.due("ahead of THE RACE: others", x.judge(3), 7);
        x.race();
        // ODD: 5, 6, 7 strong. OFF: 1 to 6 strong.
        check.due("judge(0)", x.judge(0), 2);
        check.due("judge(1)", x.judge(1), 1);
        check.due("judge(2)", x.judge(2), 4);
        check.due("judge(3)", x.judge(3), 3);
        check.due("judge(4)", x.judge(4), Check.BEYOND);
        check.due("judge(-1)", x.judge(-1), Check.BEYOND);
    }

    /** Minutes from START: 12, 20, 20, 24, and 28 of one that isn't HEARD at GOAL. */
    private static TrainMile five() {
        TrainMile x = new TrainMile();
        x.runner(3, 50);
        x.runner(5, 0);
        x.runner(5, 30);
        x.runner(6, 1);
        x.runner(7, 0);
        x.going(7, 4, 400, 0);
        x.race();
        return x;
    }

    private static void promise31Place() {
        TrainMile x = five();
        int[] due = {1, 2, 2, 4, Check.STATE};
        for (int shoe = 0; shoe < 5; shoe++) {
            check.due("place(" + shoe + ", 0)", x.place(shoe, 0), due[shoe]);
        }
        check.due("0 struck out", x.place(1, 1), 1);
        check.due("0 struck out", x.place(3, 1), 3);
        check.due("0, 1, 2 struck out", x.place(3, 7), 1);
        check.due("3 struck out", x.place(1, 8), 2);
        check.due("4 struck out", x.place(3, 16), 4);
        check.due("struck out itself", x.place(3, 8), Check.STATE);
        check.due("all struck out", x.place(0, 31), Check.STATE);
        check.due("not HEARD at GOAL", x.place(4, 1), Check.STATE);
        check.due("place(5, 0)", x.place(5, 0), Check.BEYOND);
        check.due("place(-1, 0)", x.place(-1, 0), Check.BEYOND);
        check.due("place(0, 32)", x.place(0, 32), Check.BEYOND);
        check.due("place(0, -1)", x.place(0, -1), Check.BEYOND);
        check.due("BEYOND ahead of STATE", x.place(4, 32), Check.BEYOND);
        x.going(7, 0, 0, 0);
        x.race();
        // Not HEARD at START: 62 minutes from 0.
        check.due("place(0, 0)", x.place(0, 0), 4);
        check.due("place(1, 0)", x.place(1, 0), 1);
        check.due("place(3, 0)", x.place(3, 0), 3);
        x.road(4);
        check.due("nobody is HEARD", x.place(1, 0), Check.STATE);
    }

    private static void promise32Up() {
        TrainMile x = five();
        check.due("nobody struck out", x.up(0), 0);
        check.due("0 struck out: 1, 2, 3 are up", x.up(1), 3);
        check.due("1 struck out: 3 is up", x.up(2), 1);
        check.due("3 struck out", x.up(8), 0);
        check.due("4 struck out, which has no PLACE", x.up(16), 0);
        check.due("0 and 3 struck out", x.up(9), 2);
        check.due("1 and 2 struck out", x.up(6), 1);
        check.due("all struck out", x.up(31), 0);
        check.due("up(32)", x.up(32), Check.BEYOND);
        check.due("up(-1)", x.up(-1), Check.BEYOND);
        check.due("nobody", new TrainMile().up(0), 0);
        check.due("nobody, up(1)", new TrainMile().up(1), Check.BEYOND);
    }
}
