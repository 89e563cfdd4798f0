/** Promises 41 to 44: images, what is told, what was found. */
public final class ImagesTest {
    private static final Check check = new Check("ImagesTest");

    public static void main(String[] args) {
        promise41Image();
        promise42RestoresAll();
        promise42RestoresTextsAndTape();
        promise42KeepsTheRest();
        promise42IsApart();
        promise43Told();
        promise44Found();
        promise44FindingsChangeNothing();
        check.end();
    }

    private static void promise41Image() {
        TrainMile x = new TrainMile();
        check.due("restore()", x.restore(), Check.NONE);
        check.due("image()", x.image(), 1);
        check.due("image()", x.image(), 2);
        x.road(9);
        check.due("restore()", x.restore(), 4);
        check.due("image(): how often isn't restored", x.image(), 3);
        x.road(9);
        check.due("image() in place of the one ahead", x.image(), 4);
        x.road(6);
        check.due("restore()", x.restore(), 9);
        check.due("restore(): it stays", x.restore(), 9);
        x.road(5);
        check.due("restore(): it stays", x.restore(), 9);
        check.due("found(2)", x.found(2), 1);
    }

    /** Something of each sort that an image keeps. */
    private static TrainMile full() {
        TrainMile x = new TrainMile();
        x.road(7);
        x.climb(2, 9);
        x.heat(3);
        x.mat(2, true);
        x.mat(5, true);
        x.deaf(2, 2);
        x.deaf(5, 5);
        x.way(104, 7, 0, 0);
        x.way(205, 8, 9, 10);
        x.runner(5, 1);
        x.runner(6, 2);
        x.going(3, 0, 100, 0);
        x.going(4, 1, 200, 1);
        x.going(7, 1, 500, 31);
        x.entry(0, 4, 5, 607);
        x.entry(0, 4, 5, 607);
        x.entry(1, 4, 5, 607);
        x.least(9);
        x.draw(12345);
        x.race();
        return x;
    }

    private static void isFull(TrainMile x, TrainMile as) {
        for (int what = 0; what <= 9; what++) {
            check.due("told(" + what + ")", x.told(what), as.told(what));
        }
        for (int runner = 0; runner < 2; runner++) {
            for (int mark = 0; mark <= 7; mark++) {
                check.due("heard(" + runner + ", " + mark + ")", x.heard(runner, mark), as.heard(runner, mark));
                check.due("would(" + runner + ", " + mark + ")", x.would(runner, mark), as.would(runner, mark));
            }
            check.due("off(" + runner + ")", x.off(runner), as.off(runner));
            check.due("same(" + runner + ", 0)", x.same(runner, 0), as.same(runner, 0));
        }
        for (int going = 0; going < 3; going++) {
            for (int what = 0; what < 5; what++) {
                check.due("goingIs(" + going + ", " + what + ")", x.goingIs(going, what), as.goingIs(going, what));
            }
        }
        for (int mark = 0; mark <= 7; mark++) {
            int deaf = as.deaf(mark, 0);
            as.deaf(mark, deaf);
            check.due("deaf(" + mark + ", ..)", x.deaf(mark, deaf), deaf);
        }
        check.due("climb(2, 9)", x.climb(2, 9), 9);
        check.due("heat(3)", x.heat(3), 3);
        check.due("mat(5, true)", x.mat(5, true), 0);
        check.due("earliest(1, 0, 4, 0, 0)", x.earliest(1, 0, 4, 0, 0), 7);
        check.due("earliest(2, 0, 5, 0, 0)", x.earliest(2, 0, 5, 0, 0), 17);
        check.due("least(9)", x.least(9), 9);
    }

    private static void promise42RestoresAll() {
        TrainMile x = full();
        x.image();
        x.race();
        x.race();
        x.forget(1);
        x.going(6, 0, 7, 1);
        x.runner(9, 9);
        x.entry(2, 1, 1, 102);
        x.entry(1, 4, 5, 607);
        x.climb(2, -1);
        x.heat(9);
        x.mat(5, false);
        x.mat(6, true);
        x.deaf(2, 9);
        x.deaf(7, 9);
        x.way(7, 1, 1, 1);
        x.least(1);
        x.race();
        check.due("restore()", x.restore(), 7);
        isFull(x, full());
        x.road(24);
        x.deaf(5, 1);
        x.way(24, 1, 1, 1);
        x.climb(2, 1);
        x.race();
        check.due("restore()", x.restore(), 7);
        isFull(x, full());
        check.due("race() goes on from what was kept", x.race(), 2);
        TrainMile y = full();
        y.race();
        check.due("told(4)", x.told(4), y.told(4));
        check.due("a RUNNER anew", x.runner(9, 9), 2);
        check.due("has no ENTRIES", x.entry(2, 1, 1, 102), 1);
        check.due("isn't HEARD", x.heard(2, 0), -1);
        check.due("isn't OFF", x.off(2), 0);
    }

    private static void promise42RestoresTextsAndTape() {
        TrainMile x = new TrainMile();
        x.runner(7, 0);
        x.image();
        Check.text(x, 0, "a*3");
        Check.text(x, 1, "77");
        Check.feed(x, "a+");
        check.due("restore()", x.restore(), 4);
        check.due("without a TEXT again", x.pace(0, 0, 0, 0, 0), 7);
        check.due("without a TEXT again", x.odd(0), 0);
        check.due("told(5)", x.told(5), 0);
        Check.text(x, 0, "a*4");
        Check.text(x, 1, "f+1");
        Check.feed(x, "a+");
        x.image();
        Check.feed(x, "b+e");
        Check.text(x, 0, "");
        Check.text(x, 0, "1");
        Check.text(x, 1, "2");
        Check.feed(x, "zzz");
        check.due("restore()", x.restore(), 4);
        check.due("told(5)", x.told(5), 2);
        check.due("a*4", x.pace(0, 0, 0, 0, 0), 28);
        check.due("f+1", x.odd(0), 8);
        check.due("THE TAPE goes on", Check.feed(x, "9"), 3);
        check.due("text(0)", x.text(0), 1);
        check.due("a+9", x.pace(0, 0, 0, 0, 0), 16);
    }

    private static void promise42KeepsTheRest() {
        TrainMile x = full();
        x.sheet(0, 16, 2);
        x.put(0, 0, 5);
        x.voice(0, 0, 1);
        x.image();
        x.put(0, 0, 9);
        x.sheet(1, 8, 1);
        x.voice(1, 3, 1);
        x.heat(-1);
        x.restore();
        check.due("SHEETS stay", x.parts(0, 2), 9);
        check.due("SHEETS stay", x.put(1, 0, 0), 1);
        check.due("THE TRACE stays", x.told(10), 8);
        check.due("THE TRACE stays", x.trace(0), 50);
        check.due("what found() tells stays", x.found(1), 1);
    }

    /** What is done behind an image doesn't reach into it. */
    private static void promise42IsApart() {
        TrainMile x = full();
        TrainMile other = new TrainMile();
        x.image();
        check.due("images are each object's own", other.restore(), Check.NONE);
        x.restore();
        x.race();
        x.climb(2, 0);
        x.restore();
        isFull(x, full());
        x.restore();
        isFull(x, full());
    }

    private static void promise43Told() {
        TrainMile x = full();
        x.feed(0, 5);
        x.voice(1, 3, 0);
        int[] due = {7, 2, 2, 3, x.draw(0), 5, 4, 1, 9, 3, 8};
        x.draw(due[4]);
        for (int what = 0; what < due.length; what++) {
            check.due("told(" + what + ")", x.told(what), due[what]);
        }
        check.due("told(11)", x.told(11), Check.BEYOND);
        check.due("told(-1)", x.told(-1), Check.BEYOND);
        check.due("found(1)", x.found(1), 2);
    }

    private static void promise44Found() {
        TrainMile x = new TrainMile();
        x.runner(5, 0);
        x.trace(0);
        x.trace(0);
        x.place(0, 0);
        x.place(0, 0);
        x.place(0, 0);
        for (int i = 0; i < 12; i++) {
            x.way(4, 9, 0, 0);
        }
        for (int i = 0; i < 4; i++) {
            x.way(4, 9, 0, 0);
        }
        for (int i = 0; i < 5; i++) {
            x.going(4, 0, 0, 0);
        }
        x.parts(9, 0);
        check.due("found(1)", x.found(1), 1);
        check.due("found(2)", x.found(2), 2);
        check.due("found(3)", x.found(3), 3);
        check.due("found(4)", x.found(4), 4);
        check.due("found(5)", x.found(5), 5);
        check.due("found(0)", x.found(0), Check.BEYOND);
        check.due("found(6)", x.found(6), Check.BEYOND);
        check.due("found(-1)", x.found(-1), Check.BEYOND);
        check.due("found(1): counted, too", x.found(1), 4);
        check.due("told", x.told(7), 0);
    }

    private static void promise44FindingsChangeNothing() {
        TrainMile x = full();
        x.road(25);
        x.climb(2, 10);
        x.climb(7, 1);
        x.heat(10);
        x.mat(0, false);
        x.mat(7, false);
        x.deaf(2, 10);
        x.way(8, 1, 1, 1);
        x.runner(31, 1);
        x.going(3, 0, 100, 1);
        x.going(6, 0, 107, 2);
        x.forget(4);
        x.draw(70000);
        x.least(31);
        x.entry(0, 4, 5, 706);
        x.feed(1, 9);
        x.text(2);
        x.restore();
        isFull(x, full());
    }
}
