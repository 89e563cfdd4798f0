/** Promises 37 to 40: sheets. What a sheet holds is told by parts(). */
public final class SheetsTest {
    private static final Check check = new Check("SheetsTest");

    public static void main(String[] args) {
        promise37Sheet();
        promise37SheetFindings();
        promise38Put();
        promise39Move();
        promise39MoveWithin();
        promise39MoveFindings();
        promise40Write();
        promise40WriteFindings();
        check.end();
    }

    /** Numbers i and j of a sheet are so far apart: what its copy in sheet 3 tells, which has both alone. */
    private static long apart(TrainMile x, int sheet, int i, int j, int bits) {
        x.sheet(3, bits, 2);
        x.move(sheet, i, 3, 0, 1);
        x.move(sheet, j, 3, 1, 1);
        return x.parts(3, 2);
    }

    /** How far number i of a sheet is off 0. */
    private static long off(TrainMile x, int sheet, int i, int bits) {
        x.sheet(3, bits, 2);
        x.move(sheet, i, 3, 0, 1);
        return x.parts(3, 2);
    }

    private static void promise37Sheet() {
        TrainMile x = new TrainMile();
        check.due("sheet(0, 8, 24)", x.sheet(0, 8, 24), 1);
        check.due("put(0, 23, 5)", x.put(0, 23, 5), 1);
        check.due("put(0, 24, 5)", x.put(0, 24, 5), Check.BEYOND);
        check.due("parts(0, 2)", x.parts(0, 2), 5);
        check.due("sheet(0, 8, 24) again", x.sheet(0, 8, 24), 1);
        check.due("all 0", x.parts(0, 2), 0);
        check.due("sheet(0, 16, 2)", x.sheet(0, 16, 2), 1);
        check.due("put(0, 2, 0)", x.put(0, 2, 0), Check.BEYOND);
        x.put(0, 0, 300);
        check.due("16 bits", x.parts(0, 2), 300);
        check.due("sheet(0, 32, 2)", x.sheet(0, 32, 2), 1);
        x.put(0, 0, 70000);
        check.due("32 bits", x.parts(0, 2), 70000);
        check.due("sheet(3, 32, 0)", x.sheet(3, 32, 0), 1);
        check.due("put(3, 0, 0): none there", x.put(3, 0, 0), Check.BEYOND);
        check.due("sheet(3, 0, -5): missing, n doesn't matter", x.sheet(3, 0, -5), 1);
        check.due("put(3, 0, 0)", x.put(3, 0, 0), Check.NONE);
        check.due("sheet(3, 0, 99): missing, n doesn't matter", x.sheet(3, 0, 99), 1);
        check.due("put(3, 0, 0)", x.put(3, 0, 0), Check.NONE);
        check.due("the other one stays", x.parts(0, 2), 70000);
    }

    private static void promise37SheetFindings() {
        TrainMile x = new TrainMile();
        x.sheet(1, 8, 2);
        x.put(1, 0, 9);
        check.due("sheet(4, 8, 1)", x.sheet(4, 8, 1), Check.BEYOND);
        check.due("sheet(-1, 8, 1)", x.sheet(-1, 8, 1), Check.BEYOND);
        check.due("sheet(1, 7, 1)", x.sheet(1, 7, 1), Check.BEYOND);
        check.due("sheet(1, 64, 1)", x.sheet(1, 64, 1), Check.BEYOND);
        check.due("sheet(1, -8, 1)", x.sheet(1, -8, 1), Check.BEYOND);
        check.due("sheet(1, 16, 25)", x.sheet(1, 16, 25), Check.BEYOND);
        check.due("sheet(1, 16, -1)", x.sheet(1, 16, -1), Check.STATE);
        check.due("sheet(1, 16, least)", x.sheet(1, 16, Integer.MIN_VALUE), Check.STATE);
        check.due("sheet(4, 8, -1): BEYOND ahead of STATE", x.sheet(4, 8, -1), Check.BEYOND);
        check.due("sheet(1, 9, -1): BEYOND ahead of STATE", x.sheet(1, 9, -1), Check.BEYOND);
        check.due("sheet(4, 0, -1)", x.sheet(4, 0, -1), Check.BEYOND);
        check.due("nothing changed", x.parts(1, 2), 9);
    }

    private static void promise38Put() {
        TrainMile x = new TrainMile();
        check.due("put(4, 0, 0)", x.put(4, 0, 0), Check.BEYOND);
        check.due("put(-1, 0, 0)", x.put(-1, 0, 0), Check.BEYOND);
        check.due("put(0, -1, 0): NONE ahead of BEYOND", x.put(0, -1, 0), Check.NONE);
        x.sheet(0, 8, 2);
        check.due("put(0, -1, 0)", x.put(0, -1, 0), Check.BEYOND);
        check.due("put(0, 2, 0)", x.put(0, 2, 0), Check.BEYOND);
        check.due("put(0, 1, 257)", x.put(0, 1, 257), 1);
        check.due("its lowest bits", x.parts(0, 2), 1);
        check.due("put(0, 0, -128)", x.put(0, 0, -128), 1);
        check.due("-128 and 1", x.parts(0, 2), 129);
        check.due("put(0, 0, 384)", x.put(0, 0, 384), 1);
        check.due("-128 and 1", x.parts(0, 2), 129);
        x.sheet(0, 16, 2);
        x.put(0, 0, 65536 + 7);
        check.due("its lowest 16 bits", x.parts(0, 2), 7);
        x.sheet(0, 32, 2);
        x.put(0, 0, Integer.MIN_VALUE);
        check.due("all 32", x.parts(0, 2), 2147483648L);
    }

    private static TrainMile counted() {
        TrainMile x = new TrainMile();
        x.sheet(0, 16, 6);
        for (int i = 0; i < 6; i++) {
            x.put(0, i, 10 * (i + 1));
        }
        return x;
    }

    private static void sheetIs(TrainMile x, int sheet, int... numbers) {
        for (int i = 0; i < numbers.length; i++) {
            check.due("number " + i + " of SHEET " + sheet, off(x, sheet, i, 16), numbers[i]);
        }
    }

    private static void promise39Move() {
        TrainMile x = counted();
        x.sheet(1, 16, 4);
        check.due("move(0, 2, 1, 1, 3)", x.move(0, 2, 1, 1, 3), 3);
        sheetIs(x, 1, 0, 30, 40, 50);
        sheetIs(x, 0, 10, 20, 30, 40, 50, 60);
        check.due("move(0, 5, 1, 0, 1)", x.move(0, 5, 1, 0, 1), 1);
        sheetIs(x, 1, 60, 30, 40, 50);
        check.due("none", x.move(0, 6, 1, 4, 0), 0);
        check.due("how far apart", apart(x, 1, 0, 1, 16), 30);
    }

    private static void promise39MoveWithin() {
        TrainMile x = counted();
        check.due("upwards, as they all were", x.move(0, 0, 0, 1, 5), 5);
        sheetIs(x, 0, 10, 10, 20, 30, 40, 50);
        check.due("downwards, as they all were", x.move(0, 2, 0, 0, 4), 4);
        sheetIs(x, 0, 20, 30, 40, 50, 40, 50);
        check.due("all to where they are", x.move(0, 0, 0, 0, 6), 6);
        sheetIs(x, 0, 20, 30, 40, 50, 40, 50);
    }

    private static void promise39MoveFindings() {
        TrainMile x = counted();
        x.sheet(1, 16, 4);
        x.sheet(2, 8, 4);
        int most = Integer.MAX_VALUE;
        int[][] beyond = {
            {4, 0, 0, 0, 1}, {-1, 0, 0, 0, 1}, {0, 0, 4, 0, 1}, {0, 0, -1, 0, 1},
            {4, 0, 3, 0, 1}, {3, 0, 4, 0, 1},
            {0, -1, 1, 0, 1}, {0, 0, 1, -1, 1}, {0, 0, 1, 0, -1}, {0, 6, 1, 0, 1}, {0, 4, 1, 0, 3},
            {0, 0, 1, 4, 1}, {0, 0, 1, 2, 3}, {0, 7, 1, 0, 0}, {0, 0, 1, 5, 0}, {0, 0, 1, 0, 5},
            {0, most, 1, 0, 1}, {0, 0, 1, most, most}, {0, 1, 1, 1, most}, {0, most, 1, most, most},
        };
        for (int[] b : beyond) {
            check.due("move(" + b[0] + ", " + b[1] + ", " + b[2] + ", " + b[3] + ", " + b[4] + ")",
                    x.move(b[0], b[1], b[2], b[3], b[4]), Check.BEYOND);
        }
        check.due("found(1)", x.found(1), beyond.length);
        check.due("from one that is missing", x.move(3, 0, 0, 0, 1), Check.NONE);
        check.due("to one that is missing", x.move(0, 0, 3, 0, 1), Check.NONE);
        check.due("both missing, NONE ahead of BEYOND", x.move(3, -1, 3, 0, 1), Check.NONE);
        check.due("unlike bits", x.move(0, 0, 2, 0, 1), Check.KIND);
        check.due("unlike bits, KIND ahead of BEYOND", x.move(0, -1, 2, 0, 1), Check.KIND);
        check.due("unlike bits, none to move", x.move(0, 0, 2, 0, 0), Check.KIND);
        check.due("nothing came", x.parts(1, 2), 0);
        check.due("nothing went", x.parts(0, 2), 90);
    }

    private static void promise40Write() {
        TrainMile x = new TrainMile();
        x.road(8);
        x.runner(30, 5);
        x.runner(1, 1);
        x.climb(0, 9);
        x.mat(1, true);
        x.mat(3, true);
        x.mat(6, true);
        x.sheet(0, 16, 6);
        for (int i = 0; i < 6; i++) {
            x.put(0, i, 7);
        }
        check.due("ahead of THE RACE", x.write(0, 0), 0);
        sheetIs(x, 0, 7, 7, 7, 7, 7, 7);
        x.going(0, 0, 100, 9);
        x.race();
        // 34; 69 by 2; 90 by 3; 62 by 2.
        check.due("write(0, 0)", x.write(0, 0), 4);
        sheetIs(x, 0, 34, 34, 30, 31, 7, 7);
        x.sheet(1, 16, 2);
        check.due("as many as there is room for", x.write(0, 1), 2);
        sheetIs(x, 1, 34, 34);
        x.sheet(1, 16, 0);
        check.due("no room", x.write(0, 1), 0);
        x.sheet(2, 8, 4);
        x.going(0, 0, 0, 99);
        x.race();
        check.due("write(0, 2)", x.write(0, 2), 4);
        check.due("133 in 8 bits is -123, and 34", apart(x, 2, 0, 1, 8), 157);
        // SHOE 0 goes over to the one who was there long ago: minutes below 0, cut.
        x.forget(0);
        x.going(5, 0, 300, 1);
        x.race();
        check.due("write(0, 0)", x.write(0, 0), 4);
        check.due("39 up to 8", x.gap(0, 1, 2), -31);
        check.due("-31 by 2 is -15, and 34", apart(x, 0, 0, 1, 16), 49);
    }

    private static void promise40WriteFindings() {
        TrainMile x = new TrainMile();
        check.due("no SHOE", x.write(0, 0), Check.BEYOND);
        x.runner(5, 0);
        check.due("write(1, 0)", x.write(1, 0), Check.BEYOND);
        check.due("write(-1, 0)", x.write(-1, 0), Check.BEYOND);
        check.due("write(0, 4)", x.write(0, 4), Check.BEYOND);
        check.due("write(0, -1)", x.write(0, -1), Check.BEYOND);
        check.due("write(0, 0)", x.write(0, 0), Check.NONE);
        check.due("BEYOND ahead of NONE", x.write(1, 0), Check.BEYOND);
    }
}
