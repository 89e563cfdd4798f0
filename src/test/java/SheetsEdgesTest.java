/** The boundary cases of promises 37 to 40: sheets. */
public final class SheetsEdgesTest {
    private static final Check check = new Check("SheetsEdgesTest");
    private static final Edge edge = new Edge(check);

    public static void main(String[] args) {
        promise37Sheets();
        promise37Bits();
        promise37Numbers();
        promise37StateAheadOfBeyond();
        promise37MissingNDoesntMatter();
        promise37AllZero();
        promise38Refused();
        promise38LowestBits();
        promise39Sheets();
        promise39Bits();
        promise39Places();
        promise39NoneToMove();
        promise39AsTheyAllWere();
        promise39WholeRows();
        promise40Refused();
        promise40Room();
        promise40Quotients();
        promise40LowestBits();
        check.end();
    }

    /** Number i of a SHEET; SHEET 3, of as many bits, is used to tell how far it is off 0 and off 1. */
    private static long number(TrainMile x, int sheet, int i, int bits) {
        x.sheet(3, bits, 2);
        x.move(sheet, i, 3, 0, 1);
        long offZero = x.parts(3, 2);
        x.put(3, 1, 1);
        return x.parts(3, 2) < offZero ? offZero : -offZero;
    }

    private static void row(String what, TrainMile x, int sheet, int bits, int... due) {
        for (int i = 0; i < due.length; i++) {
            edge.due(what + ": number " + i, number(x, sheet, i, bits), due[i]);
        }
    }

    private static void promise37Sheets() {
        edge.says("SHEETS 0 .. 3 are rows of 8, 16, 32 bits, at most 24 numbers, or missing (as at first)");
        edge.in(Worlds::busy);
        edge.spans("sheet(%d, 8, 2)", (x, v) -> x.sheet(v, 8, 2), 0, 3);
        edge.spans("sheet(%d, 0, 0)", (x, v) -> x.sheet(v, 0, 0), 0, 3);
        edge.takes("sheet(3, 32, 24)", x -> x.sheet(3, 32, 24), 1);
        edge.in(Worlds::fresh);
        for (int sheet = 0; sheet < 4; sheet++) {
            int s = sheet;
            edge.refuses("missing at first: put(" + s + ", 0, 0)", x -> x.put(s, 0, 0), Check.NONE);
            edge.refuses("missing at first: move(" + s + ", ..)", x -> x.move(s, 0, s, 0, 0), Check.NONE);
        }
    }

    private static void promise37Bits() {
        edge.says("of so many bits (8, 16, 32; 0: it is missing, n doesn't matter)");
        edge.in(Worlds::busy);
        edge.takesEach("sheet(0, %d, 2)", (x, v) -> x.sheet(0, v, 2), 0, 8, 16, 32);
        edge.refusesEach("sheet(0, %d, 2)", (x, v) -> x.sheet(0, v, 2),
                -1, 1, 2, 4, 7, 9, 15, 17, 24, 31, 33, 64, 128, -8, -16, -32, 264, Integer.MIN_VALUE, Integer.MAX_VALUE);
        edge.refusesEach("sheet(3, %d, 2)", (x, v) -> x.sheet(3, v, 2), -1, 1, 7, 33);
    }

    private static void promise37Numbers() {
        edge.says("A SHEET has n numbers");
        edge.in(Worlds::busy);
        for (int bits : new int[] {8, 16, 32}) {
            edge.takesEach("sheet(3, " + bits + ", %d)", (x, v) -> x.sheet(3, bits, v), 0, 1, 23, 24);
            edge.refusesEach("sheet(0, " + bits + ", %d)", (x, v) -> x.sheet(0, bits, v), 25, 26, 256, Integer.MAX_VALUE);
        }
        for (int n : new int[] {0, 1, 2, 23, 24}) {
            TrainMile x = new TrainMile();
            edge.due("sheet(2, 16, " + n + ")", x.sheet(2, 16, n), 1);
            edge.due("the last one", x.put(2, n - 1, 5), n == 0 ? Check.BEYOND : 1);
            edge.due("none behind it", x.put(2, n, 5), Check.BEYOND);
        }
    }

    private static void promise37StateAheadOfBeyond() {
        edge.says("STATE: n is below 0 (ahead of BEYOND of n)");
        edge.in(Worlds::busy);
        for (int n : new int[] {-1, -2, -24, -25, Integer.MIN_VALUE}) {
            for (int bits : new int[] {8, 16, 32}) {
                edge.refuses("sheet(0, " + bits + ", " + n + ")", x -> x.sheet(0, bits, n), Check.STATE);
            }
            edge.refuses("sheet(3, 8, " + n + ")", x -> x.sheet(3, 8, n), Check.STATE);
        }
        edge.says("Each act tells its findings in the order in which they are asked");
        edge.refuses("BEYOND of the SHEET ahead of STATE", x -> x.sheet(4, 8, -1), Check.BEYOND);
        edge.refuses("BEYOND of the SHEET ahead of STATE", x -> x.sheet(-1, 8, -1), Check.BEYOND);
        edge.refuses("BEYOND of bits ahead of STATE", x -> x.sheet(0, 9, -1), Check.BEYOND);
    }

    private static void promise37MissingNDoesntMatter() {
        edge.says("0: it is missing, n doesn't matter");
        edge.in(Worlds::busy);
        edge.takesEach("sheet(0, 0, %d)", (x, v) -> x.sheet(0, 0, v), 0, 24, 25, -1, Integer.MIN_VALUE, Integer.MAX_VALUE);
        for (int n : new int[] {0, 5, 25, -1, Integer.MIN_VALUE}) {
            TrainMile x = Worlds.busy();
            edge.due("sheet(0, 0, " + n + ")", x.sheet(0, 0, n), 1);
            edge.due("it is missing", x.put(0, 0, 1), Check.NONE);
            edge.due("it is missing", x.parts(0, 0), Check.NONE);
            edge.due("it is missing", x.write(0, 0), Check.NONE);
            edge.due("the others aren't", x.put(1, 0, 1), 1);
        }
    }

    private static void promise37AllZero() {
        edge.says("A SHEET has n numbers, all 0");
        TrainMile x = new TrainMile();
        x.sheet(0, 32, 24);
        for (int i = 0; i < 24; i++) {
            x.put(0, i, -1 - i);
        }
        x.sheet(0, 32, 24);
        row("anew, as many", x, 0, 32, new int[24]);
        x.put(0, 23, 7);
        x.sheet(0, 32, 2);
        x.sheet(0, 32, 24);
        edge.due("fewer, then more", number(x, 0, 23, 32), 0);
        x.put(0, 5, 7);
        x.sheet(0, 0, 24);
        x.sheet(0, 32, 24);
        edge.due("missing, then there again", number(x, 0, 5, 32), 0);
    }

    private static void promise38Refused() {
        edge.says("BEYOND: no such SHEET. NONE: it is missing. BEYOND: no such number");
        edge.in(Worlds::busy);
        edge.takesEach("put(%d, 0, 9)", (x, v) -> x.put(v, 0, 9), 0, 1, 2);
        edge.refusesEach("put(%d, 0, 9)", (x, v) -> x.put(v, 0, 9), -1, 4, Integer.MIN_VALUE, Integer.MAX_VALUE);
        edge.spans("put(0, %d, 9)", (x, v) -> x.put(0, v, 9), 0, 3);
        edge.spans("put(2, %d, 9)", (x, v) -> x.put(2, v, 9), 0, 23);
        edge.refuses("missing", x -> x.put(3, 0, 9), Check.NONE);
        edge.says("Each act tells its findings in the order in which they are asked");
        edge.refuses("NONE ahead of BEYOND of the number", x -> x.put(3, -1, 9), Check.NONE);
        edge.refuses("NONE ahead of BEYOND of the number", x -> x.put(3, 24, 9), Check.NONE);
        edge.refuses("BEYOND of the SHEET ahead of NONE", x -> x.put(4, -1, 9), Check.BEYOND);
        edge.in(() -> {
            TrainMile x = new TrainMile();
            x.sheet(0, 8, 0);
            return x;
        });
        edge.refuses("no numbers", x -> x.put(0, 0, 9), Check.BEYOND);
        edge.refuses("no numbers", x -> x.put(0, -1, 9), Check.BEYOND);
    }

    private static void promise38LowestBits() {
        edge.says("Number i of a SHEET becomes v (its lowest bits): 1");
        int[][] eight = {
            {0, 0}, {127, 127}, {128, -128}, {255, -1}, {256, 0}, {257, 1}, {-1, -1}, {-128, -128}, {-129, 127},
            {-256, 0}, {Integer.MAX_VALUE, -1}, {Integer.MIN_VALUE, 0},
        };
        int[][] sixteen = {
            {0, 0}, {32767, 32767}, {32768, -32768}, {65535, -1}, {65536, 0}, {65537, 1}, {-1, -1},
            {-32768, -32768}, {-32769, 32767}, {-65536, 0}, {Integer.MAX_VALUE, -1}, {Integer.MIN_VALUE, 0},
        };
        int[][] all = {
            {0, 0}, {65536, 65536}, {-1, -1}, {Integer.MAX_VALUE, Integer.MAX_VALUE},
            {Integer.MIN_VALUE, Integer.MIN_VALUE}, {Integer.MIN_VALUE + 1, Integer.MIN_VALUE + 1},
        };
        lowestBits(8, eight);
        lowestBits(16, sixteen);
        lowestBits(32, all);
    }

    private static void lowestBits(int bits, int[][] due) {
        TrainMile x = new TrainMile();
        x.sheet(0, bits, 3);
        for (int[] d : due) {
            edge.due("put(0, 1, " + d[0] + ")", x.put(0, 1, d[0]), 1);
            edge.due(d[0] + " in " + bits + " bits", number(x, 0, 1, bits), d[1]);
        }
        edge.due("the one ahead", number(x, 0, 0, bits), 0);
        edge.due("the one behind", number(x, 0, 2, bits), 0);
    }

    private static void promise39Sheets() {
        edge.says("BEYOND: no such SHEET. NONE: one is missing");
        edge.in(Worlds::busy);
        edge.refusesEach("move(%d, 0, 0, 0, 1)", (x, v) -> x.move(v, 0, 0, 0, 1), -1, 4, Integer.MIN_VALUE, Integer.MAX_VALUE);
        edge.refusesEach("move(0, 0, %d, 0, 1)", (x, v) -> x.move(0, 0, v, 0, 1), -1, 4, Integer.MIN_VALUE, Integer.MAX_VALUE);
        edge.refuses("from one that is missing", x -> x.move(3, 0, 0, 0, 1), Check.NONE);
        edge.refuses("to one that is missing", x -> x.move(0, 0, 3, 0, 1), Check.NONE);
        edge.refuses("both are missing", x -> x.move(3, 0, 3, 0, 0), Check.NONE);
        edge.says("Each act tells its findings in the order in which they are asked");
        edge.refuses("BEYOND of a SHEET ahead of NONE", x -> x.move(3, 0, 4, 0, 1), Check.BEYOND);
        edge.refuses("BEYOND of a SHEET ahead of NONE", x -> x.move(-1, 0, 3, 0, 1), Check.BEYOND);
        edge.refuses("NONE ahead of BEYOND of places", x -> x.move(3, -1, 0, -1, -1), Check.NONE);
    }

    private static void promise39Bits() {
        edge.says("KIND: they are of unlike bits");
        for (int one : new int[] {8, 16, 32}) {
            for (int other : new int[] {8, 16, 32}) {
                edge.in(() -> {
                    TrainMile x = new TrainMile();
                    x.sheet(0, one, 2);
                    x.put(0, 1, 9);
                    x.sheet(1, other, 2);
                    return x;
                });
                if (one == other) {
                    edge.takes(one + " and " + other + " bits", x -> x.move(0, 0, 1, 0, 2), 2);
                } else {
                    edge.refuses(one + " and " + other + " bits", x -> x.move(0, 0, 1, 0, 2), Check.KIND);
                    edge.refuses("none to move", x -> x.move(0, 0, 1, 0, 0), Check.KIND);
                    edge.refuses("KIND ahead of BEYOND", x -> x.move(0, -1, 1, 0, 2), Check.KIND);
                    edge.refuses("KIND ahead of BEYOND", x -> x.move(0, 0, 1, 0, 3), Check.KIND);
                }
            }
        }
    }

    private static void promise39Places() {
        edge.says("BEYOND: n, i, or j is below 0, or they don't stand there");
        // Of busy() SHEET 0 has 4 and SHEET 2 has 24 numbers of 16 bits.
        edge.in(Worlds::busy);
        edge.spans("move(0, %d, 2, 0, 1)", (x, v) -> x.move(0, v, 2, 0, 1), 0, 3);
        edge.spans("move(0, %d, 2, 0, 3)", (x, v) -> x.move(0, v, 2, 0, 3), 0, 1);
        edge.spans("move(0, 0, 2, %d, 1)", (x, v) -> x.move(0, 0, 2, v, 1), 0, 23);
        edge.spans("move(0, 0, 2, %d, 4)", (x, v) -> x.move(0, 0, 2, v, 4), 0, 20);
        edge.spans("move(0, 0, 2, 0, %d)", (x, v) -> x.move(0, 0, 2, 0, v), 0, 4);
        edge.spans("move(2, 0, 0, 0, %d)", (x, v) -> x.move(2, 0, 0, 0, v), 0, 4);
        edge.spans("move(2, 1, 2, 0, %d)", (x, v) -> x.move(2, 1, 2, 0, v), 0, 23);
        int most = Integer.MAX_VALUE;
        edge.refuses("i and n go round", x -> x.move(2, most, 2, 0, most), Check.BEYOND);
        edge.refuses("i and n go round", x -> x.move(2, 2, 2, 0, most), Check.BEYOND);
        edge.refuses("j and n go round", x -> x.move(2, 0, 2, most, 1), Check.BEYOND);
        edge.refuses("j and n go round", x -> x.move(2, 0, 2, most - 1, 4), Check.BEYOND);
        edge.refuses("all below 0", x -> x.move(2, -1, 2, -1, -1), Check.BEYOND);
        edge.refuses("n below 0, i above", x -> x.move(2, 25, 2, 25, -1), Check.BEYOND);
        edge.refuses("the least of all", x -> x.move(2, Integer.MIN_VALUE, 2, Integer.MIN_VALUE, Integer.MIN_VALUE), Check.BEYOND);
    }

    private static void promise39NoneToMove() {
        edge.says("n numbers of a SHEET, from number i on, come to another one (or the same)");
        edge.in(Worlds::busy);
        edge.takes("none, from the first", x -> x.move(0, 0, 2, 0, 0), 0);
        edge.takes("none, from behind the last", x -> x.move(0, 4, 2, 24, 0), 0);
        edge.takes("one", x -> x.move(0, 3, 2, 23, 1), 1);
        edge.takes("none changes nothing", x -> {
            x.move(2, 0, 0, 0, 0);
            return x.parts(0, 2);
        }, 50 + 5);
        edge.in(() -> {
            TrainMile x = new TrainMile();
            x.sheet(0, 8, 0);
            return x;
        });
        edge.takes("none of none", x -> x.move(0, 0, 0, 0, 0), 0);
        edge.refuses("one of none", x -> x.move(0, 0, 0, 0, 1), Check.BEYOND);
    }

    private static void promise39AsTheyAllWere() {
        edge.says("as they all were: n");
        int[][] moves = {
            {0, 1, 5}, {1, 0, 5}, {0, 2, 4}, {2, 0, 4}, {0, 3, 3}, {3, 0, 3}, {1, 2, 4}, {2, 1, 4}, {0, 5, 1},
            {5, 0, 1}, {2, 2, 3}, {0, 0, 6},
        };
        for (int[] m : moves) {
            TrainMile x = new TrainMile();
            int[] numbers = {11, 22, 33, 44, 55, 66};
            x.sheet(0, 16, 6);
            for (int i = 0; i < 6; i++) {
                x.put(0, i, numbers[i]);
            }
            String what = "move(0, " + m[0] + ", 0, " + m[1] + ", " + m[2] + ")";
            edge.due(what, x.move(0, m[0], 0, m[1], m[2]), m[2]);
            int[] due = numbers.clone();
            for (int i = 0; i < m[2]; i++) {
                due[m[1] + i] = numbers[m[0] + i];
            }
            row(what, x, 0, 16, due);
        }
    }

    private static void promise39WholeRows() {
        edge.says("n numbers of a SHEET, from number i on, come to another one");
        TrainMile x = new TrainMile();
        int[] numbers = new int[24];
        x.sheet(0, 32, 24);
        x.sheet(1, 32, 24);
        for (int i = 0; i < 24; i++) {
            numbers[i] = Integer.MIN_VALUE + 1000 * i;
            x.put(0, i, numbers[i]);
        }
        edge.due("all 24", x.move(0, 0, 1, 0, 24), 24);
        row("those that came", x, 1, 32, numbers);
        row("those that are there still", x, 0, 32, numbers);
        x.put(0, 0, 7);
        edge.due("they are two rows", number(x, 1, 0, 32), Integer.MIN_VALUE);
    }

    private static void promise40Refused() {
        edge.says("BEYOND: SHOE, SHEET. NONE: the SHEET is missing");
        edge.in(Worlds::busy);
        edge.spans("write(%d, 0)", (x, v) -> x.write(v, 0), 0, 2);
        edge.takesEach("write(0, %d)", (x, v) -> x.write(0, v), 0, 1, 2);
        edge.refusesEach("write(0, %d)", (x, v) -> x.write(0, v), -1, 4, Integer.MIN_VALUE, Integer.MAX_VALUE);
        edge.refuses("missing", x -> x.write(0, 3), Check.NONE);
        edge.says("Each act tells its findings in the order in which they are asked");
        edge.refuses("BEYOND ahead of NONE", x -> x.write(3, 3), Check.BEYOND);
        edge.refuses("BEYOND ahead of NONE", x -> x.write(-1, 3), Check.BEYOND);
        edge.in(Worlds::fresh);
        edge.refuses("nobody", x -> x.write(0, 0), Check.BEYOND);
    }

    /** One RUNNER on n PIECES, who takes 10, 11, 12, .. minutes for them. */
    private static TrainMile tiring(int n) {
        TrainMile x = new TrainMile();
        x.road(n);
        x.runner(10, 0);
        Check.text(x, 0, "a+b");
        return x;
    }

    private static void promise40Room() {
        edge.says("as many as the SHEET has room for: how many");
        for (int n : new int[] {0, 1, 23, 24}) {
            TrainMile x = tiring(24);
            Edge.allMats(x);
            x.race();
            x.sheet(0, 16, n);
            edge.due("room for " + n + " of 24", x.write(0, 0), n);
            if (n > 0) {
                edge.due("the first", number(x, 0, 0, 16), 10);
                edge.due("the last", number(x, 0, n - 1, 16), 9 + n);
            }
        }
        TrainMile x = tiring(4);
        x.sheet(0, 16, 3);
        for (int i = 0; i < 3; i++) {
            x.put(0, i, 70 + i);
        }
        edge.due("no GAPS", x.write(0, 0), 0);
        row("no GAPS", x, 0, 16, 70, 71, 72);
        x.mat(1, true);
        x.race();
        edge.due("two GAPS", x.write(0, 0), 2);
        row("two GAPS, the rest stays", x, 0, 16, 10, 12, 72);
        x.mat(2, true);
        x.race();
        edge.due("three GAPS, just room", x.write(0, 0), 3);
        row("three GAPS", x, 0, 16, 10, 11, 12);
        x.mat(3, true);
        x.race();
        edge.due("four GAPS, room for three", x.write(0, 0), 3);
        row("the first three", x, 0, 16, 10, 11, 12);
    }

    private static void promise40Quotients() {
        edge.says("minutes of each GAP by its PIECES, GAP by GAP");
        TrainMile x = tiring(24);
        x.mat(2, true);
        x.mat(5, true);
        x.race();
        x.sheet(0, 16, 24);
        edge.due("three GAPS", x.write(0, 0), 3);
        // 10 and 11 by 2; 12, 13 and 14 by 3; 15 up to 33 by 19.
        row("cut", x, 0, 16, 10, 13, 24, 0);
        edge.says("All quotients are cut");
        TrainMile y = new TrainMile();
        y.runner(30, 8);
        y.runner(1, 0);
        y.going(5, 0, 400, 1);
        y.race();
        y.sheet(0, 16, 1);
        edge.due("4 less 8 minutes by 4", y.gap(0, 0, 2), -4);
        edge.due("one", y.write(0, 0), 1);
        row("just", y, 0, 16, -1);
        y.going(5, 0, 100, 1);
        y.mat(3, true);
        y.race();
        y.sheet(0, 16, 2);
        edge.due("two", y.write(0, 0), 2);
        row("3 less 8 by 3 is cut", y, 0, 16, -1, 1);
    }

    private static void promise40LowestBits() {
        edge.says("GAPS of a SHOE come to a SHEET");
        TrainMile x = new TrainMile();
        x.runner(29, 0);
        Edge.allMats(x);
        x.going(0, 0, 0, 98);
        x.going(0, 0, 100, 99);
        x.race();
        x.sheet(0, 8, 4);
        edge.due("write(0, 0)", x.write(0, 0), 4);
        row("127 and 128 in 8 bits", x, 0, 8, 127, -128, 29, 29);
        x.sheet(0, 16, 4);
        x.write(0, 0);
        row("127 and 128 in 16 bits", x, 0, 16, 127, 128, 29, 29);
        x.sheet(0, 32, 4);
        x.write(0, 0);
        row("127 and 128 in 32 bits", x, 0, 32, 127, 128, 29, 29);
    }
}
