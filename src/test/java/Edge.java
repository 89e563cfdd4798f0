/** Tests of boundary cases: what is just taken, what is just refused, and what a refused call leaves. */
final class Edge {
    interface Call {
        long on(TrainMile x);
    }

    interface NumberedCall {
        long on(TrainMile x, int v);
    }

    interface World {
        TrainMile make();
    }

    private final Check check;
    private String sentence = "";
    private World world = Worlds::fresh;
    private Look look;

    Edge(Check check) {
        this.check = check;
    }

    /** Quotes the sentence of the document that the tests behind this are of. */
    void says(String quoted) {
        sentence = quoted;
    }

    /** The world in which calls are made from here on, anew for each of them. */
    void in(World w) {
        world = w;
        look = null;
    }

    void due(String call, long got, long want) {
        check.due(named(call), got, want);
    }

    void holds(String what, boolean does) {
        check.holds(named(what), does);
    }

    private String named(String call) {
        return "\"" + sentence + "\": " + call;
    }

    /** The call is taken: it answers what is due, and finds nothing. */
    void takes(String call, Call c, long due) {
        TrainMile x = world.make();
        int[] ahead = foundBy(x);
        check.due(named(call), c.on(x), due);
        sameFound(call, ahead, foundBy(x), 0);
    }

    /** The call answers a finding, which is counted, and nothing else is another way than it was. */
    void refuses(String call, Call c, int finding) {
        if (look == null) {
            look = Look.at(world.make());
        }
        TrainMile x = world.make();
        check.due(named(call), c.on(x), finding);
        Look behind = Look.at(x);
        sameFound(call, look.found, behind.found, -1000000 - finding);
        String difference = look.difference(behind);
        check.holds(named(call) + " changes nothing: " + difference, difference == null);
    }

    /** The call is taken with the least and the greatest number, and is BEYOND with those outside. */
    void spans(String call, NumberedCall c, int least, int greatest) {
        takenWith(call, c, least);
        takenWith(call, c, greatest);
        refusedWith(call, c, least - 1);
        refusedWith(call, c, greatest + 1);
        refusedWith(call, c, Integer.MIN_VALUE);
        refusedWith(call, c, Integer.MAX_VALUE);
    }

    /** The call is taken with each of these numbers, whatever it answers. */
    void takesEach(String call, NumberedCall c, int... numbers) {
        for (int v : numbers) {
            takenWith(call, c, v);
        }
    }

    /** The call is BEYOND with each of these numbers. */
    void refusesEach(String call, NumberedCall c, int... numbers) {
        for (int v : numbers) {
            refusedWith(call, c, v);
        }
    }

    private void takenWith(String call, NumberedCall c, int v) {
        TrainMile x = world.make();
        int[] ahead = foundBy(x);
        c.on(x, v);
        sameFound(String.format(call, v), ahead, foundBy(x), 0);
    }

    private void refusedWith(String call, NumberedCall c, int v) {
        refuses(String.format(call, v), x -> c.on(x, v), Check.BEYOND);
    }

    private void sameFound(String call, int[] ahead, int[] behind, int except) {
        for (int k = 1; k <= 5; k++) {
            check.due(named(call) + ", then found(" + k + ")", behind[k], ahead[k] + (k == except ? 1 : 0));
        }
    }

    static int[] foundBy(TrainMile x) {
        int[] found = new int[6];
        for (int k = 1; k <= 5; k++) {
            found[k] = x.found(k);
        }
        return found;
    }

    /** The X with which one draws next what leaves a digit modulo 10; it is looked for, not worked out. */
    static int beforeDigit(int digit) {
        for (long before = 0; before < 65536; before++) {
            if ((before * 25173 + 13849) % 65536 % 10 == digit) {
                return (int) before;
            }
        }
        throw new IllegalStateException("no X draws " + digit);
    }

    /** MATS at all MARKS. */
    static void allMats(TrainMile x) {
        for (int mark = 1; mark < x.told(0); mark++) {
            x.mat(mark, true);
        }
    }
}
