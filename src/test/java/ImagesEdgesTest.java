/** The boundary cases of promises 41 to 44: images, what is told, what was found. */
public final class ImagesEdgesTest {
    private static final Check check = new Check("ImagesEdgesTest");
    private static final Edge edge = new Edge(check);

    /** Each act that changes something that an image keeps, as it can be done in busy(). */
    private static final Edge.Call[] CHANGES = {
        x -> x.road(4), x -> x.road(8), x -> x.road(24), x -> x.climb(7, 9), x -> x.heat(9), x -> x.mat(7, true),
        x -> x.mat(4, false), x -> x.deaf(0, 9), x -> x.deaf(8, 9), x -> x.way(8, 1, 0, 0), x -> x.way(708, 1, 5, 5),
        x -> x.runner(30, 99), x -> x.going(0, 0, 0, 99), x -> x.going(7, 1, 800, -1), x -> x.forget(0),
        x -> x.forget(4), x -> x.draw(65535), TrainMile::race, x -> x.feed('1', 1), x -> x.text(0), x -> x.text(1),
        x -> x.least(30), x -> x.entry(0, 4, 5, 608), x -> x.entry(2, 365, 30, 2324),
        x -> x.text(0) + Check.feed(x, "zzzz"),
    };

    public static void main(String[] args) {
        promise41HowOften();
        promise41InPlaceOfOneAhead();
        promise42None();
        promise42AllIsAsItWas();
        promise42AllIsAsItWasFull();
        promise42AllIsAsItWasNew();
        promise42ItStays();
        promise42WhatIsntKept();
        promise42Pieces();
        promise43Told();
        promise43ToldAtTheFullest();
        promise44Found();
        promise44CountsEach();
        promise44NotByTheAnswer();
        promise44FiveHundredTwelveCalls();
        check.end();
    }

    private static void promise41HowOften() {
        edge.says("is kept as an IMAGE, in place of one ahead: how often that was done");
        TrainMile x = new TrainMile();
        for (int i = 1; i <= 500; i++) {
            edge.due("image()", x.image(), i);
        }
        edge.due("restore()", x.restore(), 4);
        edge.due("how often isn't restored", x.image(), 501);
        TrainMile y = new TrainMile();
        edge.due("another object has its own", y.image(), 1);
        edge.due("road() doesn't matter", y.road(24), 24);
        edge.due("how often", y.image(), 2);
    }

    private static void promise41InPlaceOfOneAhead() {
        edge.says("in place of one ahead");
        TrainMile x = new TrainMile();
        for (int n = 4; n <= 24; n++) {
            x.road(n);
            x.image();
            x.road(4);
            edge.due("the latest one", x.restore(), n);
        }
    }

    private static void promise42None() {
        edge.says("NONE: there is none");
        edge.in(Worlds::fresh);
        edge.refuses("restore()", TrainMile::restore, Check.NONE);
        edge.in(() -> {
            TrainMile x = new TrainMile();
            x.road(8);
            x.runner(5, 0);
            x.race();
            return x;
        });
        edge.refuses("restore()", TrainMile::restore, Check.NONE);
    }

    private static TrainMile kept(Edge.World world) {
        TrainMile x = world.make();
        x.image();
        return x;
    }

    private static void sameAs(String what, Look due, TrainMile x) {
        String difference = due.difference(Look.at(x));
        edge.holds(what + ": " + difference, difference == null);
    }

    private static void promise42AllIsAsItWas() {
        edge.says("All is as the IMAGE has it, which stays");
        Look due = Look.at(kept(Worlds::busy));
        for (int i = 0; i < CHANGES.length; i++) {
            TrainMile changed = kept(Worlds::busy);
            CHANGES[i].on(changed);
            edge.holds("change " + i + " is seen", due.difference(Look.at(changed)) != null);
            TrainMile x = kept(Worlds::busy);
            CHANGES[i].on(x);
            edge.due("restore()", x.restore(), 8);
            sameAs("behind change " + i, due, x);
        }
        TrainMile x = kept(Worlds::busy);
        for (Edge.Call change : CHANGES) {
            change.on(x);
        }
        int[] found = {0, x.found(1), x.found(2), x.found(3), x.found(4), x.found(5)};
        edge.due("restore()", x.restore(), 8);
        for (int k = 1; k <= 5; k++) {
            edge.due("found(" + k + ")", x.found(k), found[k]);
        }
        sameAs("behind all changes", due, x);
    }

    private static void promise42AllIsAsItWasFull() {
        edge.says("All is as the IMAGE has it");
        Look due = Look.at(kept(Worlds::full));
        TrainMile x = kept(Worlds::full);
        x.road(24);
        x.forget(0);
        x.text(0);
        x.heat(9);
        x.deaf(5, 5);
        x.race();
        edge.due("restore()", x.restore(), 8);
        sameAs("all that was full", due, x);
        TrainMile y = kept(Worlds::full);
        y.road(4);
        y.restore();
        edge.due("WAYS are full", y.way(8, 1, 0, 0), Check.FULL);
        edge.due("RUNNERS are full", y.runner(5, 0), Check.FULL);
        edge.due("GOINGS are full", y.going(0, 0, 0, 0), Check.FULL);
        edge.due("ENTRIES are full", y.entry(11, 0, 0, 1), Check.FULL);
        edge.due("THE TAPE is full", y.feed(0, 1), Check.FULL);
    }

    private static void promise42AllIsAsItWasNew() {
        edge.says("All is as the IMAGE has it");
        TrainMile x = kept(Worlds::fresh);
        for (int r = 0; r < 12; r++) {
            x.runner(5, r);
            x.entry(r, 1, 1, 102);
        }
        x.way(4, 1, 0, 0);
        x.going(3, 11, 0, 0);
        Check.text(x, 0, "99");
        Check.text(x, 1, "99");
        x.race();
        edge.due("restore()", x.restore(), 4);
        sameAs("nothing is there", Look.at(kept(Worlds::fresh)), x);
        TrainMile y = kept(Worlds::fresh);
        for (int r = 0; r < 12; r++) {
            y.runner(5, r);
            y.entry(r, 1, 1, 102);
        }
        y.way(4, 1, 0, 0);
        y.going(3, 0, 0, 0);
        y.race();
        y.restore();
        edge.due("a RUNNER anew", y.runner(7, 0), 0);
        edge.due("isn't HEARD", y.heard(0, 4), -1);
        edge.due("isn't OFF", y.off(0), 0);
        edge.due("has no ENTRIES", y.entry(0, 1, 1, 102), 1);
        edge.due("a WAY anew", y.way(3, 1, 0, 0), 0);
        edge.due("a GOING anew", y.going(0, 0, 0, 1), 0);
        edge.due("it runs all", y.would(0, 4), 29);
    }

    private static void promise42ItStays() {
        edge.says("which stays");
        Look due = Look.at(kept(Worlds::busy));
        TrainMile x = kept(Worlds::busy);
        for (int i = 0; i < 3; i++) {
            x.road(4);
            edge.due("restore()", x.restore(), 8);
            x.climb(3, 9);
            x.race();
            edge.due("restore(), twice", x.restore(), 8);
        }
        sameAs("what is done behind it doesn't come into it", due, x);
    }

    private static void promise42WhatIsntKept() {
        edge.says("All (but SHEETS, THE TRACE, what found() tells, and how often this was done) is kept");
        TrainMile x = kept(Worlds::busy);
        x.put(0, 2, 500);
        x.sheet(1, 0, 0);
        x.sheet(3, 32, 24);
        x.voice(0, 3, 5);
        x.told(11);
        x.trace(-1);
        x.image();
        x.heat(0);
        x.restore();
        edge.due("HEAT is", x.heat(0), 4);
        edge.due("a number of a SHEET isn't", x.parts(0, 2), 5 + 495 + 45);
        edge.due("that a SHEET is missing isn't", x.put(1, 0, 0), Check.NONE);
        edge.due("that a SHEET is there isn't", x.put(3, 23, 0), 1);
        edge.due("THE TRACE isn't", x.told(10), 4);
        edge.due("THE TRACE isn't", x.trace(0), 13);
        edge.due("what found() tells isn't", x.found(1), 1);
        edge.due("what found() tells isn't", x.found(2), 2);
        edge.due("how often isn't", x.image(), 4);
    }

    private static void promise42Pieces() {
        edge.says("which stays: PIECES of THE ROAD");
        for (int n = 4; n <= 24; n += 20) {
            TrainMile x = new TrainMile();
            x.road(n);
            x.image();
            x.road(28 - n);
            edge.due("restore()", x.restore(), n);
            edge.due("told(0)", x.told(0), n);
            edge.due("the last PIECE", x.climb(n - 1, 0), 0);
            edge.due("none behind it", x.climb(n, 0), Check.BEYOND);
        }
    }

    private static void promise43Told() {
        edge.says("9 ENTRIES of all, 10 BODIES in THE TRACE. BEYOND");
        edge.in(Worlds::busy);
        edge.spans("told(%d)", TrainMile::told, 0, 10);
        int[] due = {8, 3, 3, 5, -1, 4, 5, 1, 4, 3, 6};
        for (int what = 0; what < due.length; what++) {
            int w = what;
            if (what != 4) {
                edge.takes("told(" + what + ")", x -> x.told(w), due[what]);
            }
        }
        edge.in(Worlds::fresh);
        edge.spans("told(%d)", TrainMile::told, 0, 10);
    }

    private static void promise43ToldAtTheFullest() {
        edge.says("0 PIECES, 1 WAYS, 2 RUNNERS, 3 GOINGS, 4 X, 5 bytes of THE TAPE, 6 MATS");
        edge.in(Worlds::full);
        int[][] due = {{0, 8}, {1, 12}, {2, 12}, {3, 40}, {5, 60}, {6, 3}, {7, 1}, {8, 3}, {9, 16}};
        for (int[] d : due) {
            edge.takes("told(" + d[0] + ")", x -> x.told(d[0]), d[1]);
        }
        TrainMile x = new TrainMile();
        x.road(24);
        Edge.allMats(x);
        edge.due("MATS at the most", x.told(6), 25);
        for (int i = 1; i <= 400; i++) {
            x.race();
        }
        edge.says("7 how often a RACE was run");
        edge.due("told(7)", x.told(7), 400);
    }

    private static void promise44Found() {
        edge.says("How many acts have answered a finding LOW - k (k 1 .. 5); BEYOND: another k (counted, too)");
        edge.in(Worlds::busy);
        edge.spans("found(%d)", TrainMile::found, 1, 5);
        edge.refusesEach("found(%d)", TrainMile::found, -1, 7, 257);
        TrainMile x = new TrainMile();
        for (int i = 1; i <= 5; i++) {
            edge.due("found(0)", x.found(0), Check.BEYOND);
            edge.due("found(6)", x.found(6), Check.BEYOND);
            edge.due("found(1)", x.found(1), 2 * i);
        }
        edge.due("the others", x.found(2) + x.found(3) + x.found(4) + x.found(5), 0);
    }

    private static void promise44CountsEach() {
        edge.says("LOW is -1000000; LOW - 1 BEYOND, LOW - 2 NONE, LOW - 3 STATE, LOW - 4 FULL, LOW - 5 KIND");
        Edge.Call[] calls = {
            null, y -> y.road(3), y -> y.trace(99), y -> y.place(0, 1), y -> y.runner(5, 5), y -> y.as(0, 7),
        };
        for (int k = 1; k <= 5; k++) {
            TrainMile x = Worlds.full();
            for (int i = 1; i <= 3; i++) {
                edge.due("a finding", calls[k].on(x), -1000000 - k);
                for (int f = 1; f <= 5; f++) {
                    edge.due("found(" + f + ") behind " + i + " of LOW - " + k, x.found(f), f == k ? i : 0);
                }
            }
        }
        TrainMile x = Worlds.full();
        edge.due("one that answers a long", x.parts(4, 0), -1000001L);
        edge.due("is counted, too", x.found(1), 1);
    }

    private static void promise44NotByTheAnswer() {
        edge.says("How many acts have answered a finding");
        TrainMile x = Worlds.busy();
        edge.due("-1 is none", x.heard(0, 7), -1);
        edge.due("a FAULT is none", Check.text(x, 0, "("), -14);
        edge.due("a number of a GOING as told", x.goingIs(x.going(7, 0, 0, Check.FULL), 4), Check.FULL);
        edge.due("a VOICE", x.voice(5, 0, Check.KIND), Check.KIND);
        for (int k = 1; k <= 5; k++) {
            edge.due("found(" + k + ")", x.found(k), 0);
        }
    }

    private static void promise44FiveHundredTwelveCalls() {
        edge.says("An object is used for at most 512 calls after it has been made");
        TrainMile x = new TrainMile();
        for (int i = 1; i <= 511; i++) {
            x.road(25);
        }
        edge.due("the 512th call", x.found(1), 511);
        TrainMile y = new TrainMile();
        y.road(24);
        y.runner(9, 0);
        Check.text(y, 0, "a+b*c/d+e-f|a&b<c+(d=e)*(f>!(a-b))");
        for (int i = 0; i < 504; i++) {
            y.odds(0, 8, i, i % 2);
        }
        edge.due("the dearest one for the 512th time", y.odds(0, 8, 9999, 0), 65536);
    }
}
