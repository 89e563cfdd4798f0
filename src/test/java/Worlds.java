/** Objects to make calls on, each made anew in the same way. */
final class Worlds {
    private Worlds() {
    }

    static TrainMile fresh() {
        return new TrainMile();
    }

    /** Something of everything, and room for more: 8 PIECES, 3 WAYS, 3 RUNNERS, 5 GOINGS, SHEET 3 missing. */
    static TrainMile busy() {
        TrainMile x = new TrainMile();
        x.road(8);
        for (int piece = 0; piece < 8; piece++) {
            x.climb(piece, piece - 3);
        }
        x.heat(3);
        for (int mark = 2; mark < 8; mark += 2) {
            x.mat(mark, true);
            x.deaf(mark, mark / 2);
        }
        x.way(103, 7, 0, 0);
        x.way(206, 9, 12, 10);
        x.way(8, 250, 0, 0);
        x.runner(5, 1);
        x.runner(9, 20);
        x.runner(12, 2);
        x.going(0, 0, 100, 9);
        x.going(4, 1, 200, 1);
        x.going(7, 2, 400, 31);
        x.going(6, 2, 507, 0);
        x.going(5, 0, 700, 2);
        x.entry(0, 4, 5, 608);
        x.entry(0, 4, 9, 709);
        x.entry(1, 4, 5, 607);
        x.least(4);
        Check.text(x, 0, "a+c/2+d+b");
        Check.text(x, 1, "c*100+e+(f>8)");
        x.draw(12345);
        x.race();
        sheetsOf(x, 16, 4, 2, 24);
        x.voice(3, 3, 100);
        x.image();
        x.heat(4);
        x.climb(0, 1);
        Check.feed(x, "f+41");
        return x;
    }

    /** All is full: 12 WAYS, 12 RUNNERS, 40 GOINGS, 8 ENTRIES of RUNNERS 0 and 11, 60 bytes on THE TAPE. */
    static TrainMile full() {
        TrainMile x = new TrainMile();
        x.road(8);
        x.mat(3, true);
        for (int i = 0; i < 12; i++) {
            x.way(i % 4 * 100 + i % 4 + 2 + i % 3, 3 + i, i, i % 2 * 7);
        }
        for (int i = 0; i < 12; i++) {
            x.runner(3 + i, i);
        }
        for (int i = 0; i < 40; i++) {
            x.going(i % 2, i % 12, i % 7 * 100 + 8, i % 20);
        }
        for (int i = 0; i < 8; i++) {
            x.entry(0, i / 2, i, 810 + i);
            x.entry(11, i / 3, i, 911 + i);
        }
        x.race();
        sheetsOf(x, 32, 24, 24, 2);
        x.voice(39, 3, 7);
        x.image();
        Check.feed(x, "1+".repeat(29) + "41");
        return x;
    }

    private static void sheetsOf(TrainMile x, int bits, int... sizes) {
        for (int sheet = 0; sheet < sizes.length; sheet++) {
            x.sheet(sheet, sheet == 1 ? 8 : bits, sizes[sheet]);
            x.put(sheet, 0, 5 + sheet);
            x.put(sheet, 1, 50 - sheet);
        }
    }
}
