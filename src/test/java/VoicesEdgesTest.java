import java.util.ArrayList;
import java.util.List;

/** The boundary cases of promises 35 and 36: voices, compared with classes of Java that say the same. */
public final class VoicesEdgesTest {
    private static final Check check = new Check("VoicesEdgesTest");
    private static final Edge edge = new Edge(check);
    private static final int[] NUMBERS = {
        0, 1, -1, 2, 7, 1000, 1 << 30, -(1 << 30), Integer.MAX_VALUE, Integer.MAX_VALUE - 1,
        Integer.MIN_VALUE, Integer.MIN_VALUE + 1,
    };

    public static void main(String[] args) {
        promise35Refused();
        promise35GoRound();
        promise35LooksLikeAFinding();
        promise35MarksAndRunners();
        promise36None();
        promise36AsTheyBegan();
        promise36TheLatest();
        promise36RefusedLeavesIt();
        check.end();
    }

    private static void promise35Refused() {
        edge.says("A VOICE of a GOING: any number");
        edge.in(Worlds::busy);
        edge.spans("voice(%d, 0, 5)", (x, v) -> x.voice(v, 0, 5), 0, 4);
        edge.spans("voice(0, %d, 5)", (x, v) -> x.voice(0, v, 5), 0, 3);
        edge.takesEach("voice(0, 3, %d)", (x, v) -> x.voice(0, 3, v), NUMBERS);
        edge.in(Worlds::full);
        edge.spans("voice(%d, 3, 5)", (x, v) -> x.voice(v, 3, 5), 0, 39);
        edge.in(Worlds::fresh);
        edge.refuses("without GOINGS", x -> x.voice(0, 0, 0), Check.BEYOND);
    }

    /** 24 PIECES, 12 RUNNERS, a WAY of FOOT and a TRAIN from a MARK. */
    private static TrainMile world(int from) {
        TrainMile x = new TrainMile();
        x.road(24);
        for (int r = 0; r < 12; r++) {
            x.runner(5, 0);
        }
        x.way(100 * from + 24, 5, 0, 0);
        x.way(100 * from + 24, 5, 0, 1);
        return x;
    }

    private static Going told(TrainMile x, int kind, int runner, int from) {
        x.forget(0);
        edge.due("going of KIND " + kind, x.going(kind, runner, 100 * from + 24, kind == 4 ? 1 : 0), 0);
        switch (kind) {
            case 0:
                return new Going(runner, from);
            case 1:
                return new Run(runner, from);
            case 2:
                return new Walked(runner, from);
            case 3:
                return new Short(runner, from);
            case 4:
                return new Ridden(runner, from);
            case 5:
                return new Carried(runner, from);
            case 6:
                return new Swapped(runner, from);
            default:
                return new Missed(runner, from);
        }
    }

    private static void promise35GoRound() {
        edge.says("VOICES of a GOING, with a number x (ints that go round)");
        for (int kind = 0; kind < 8; kind++) {
            TrainMile x = world(23);
            Going g = told(x, kind, 11, 23);
            for (int act = 0; act < 4; act++) {
                for (int number : NUMBERS) {
                    edge.due("KIND " + kind + ", voice(0, " + act + ", " + number + ")",
                            x.voice(0, act, number), g.voice(act, number));
                }
            }
        }
    }

    private static void promise35LooksLikeAFinding() {
        edge.says("A VOICE of a GOING: any number");
        TrainMile x = Worlds.busy();
        for (int k = 1; k <= 5; k++) {
            edge.due("as if it were LOW - " + k, x.voice(0, 0, -1000000 - k - 1), -1000000 - k);
        }
        for (int k = 1; k <= 5; k++) {
            edge.due("isn't found: found(" + k + ")", x.found(k), 0);
        }
    }

    private static void promise35MarksAndRunners() {
        edge.says("r is its RUNNER, m the MARK from");
        int[][] at = {{0, 0}, {11, 0}, {0, 23}, {5, 1}};
        for (int[] a : at) {
            TrainMile x = world(a[1]);
            for (int kind = 0; kind < 8; kind++) {
                Going g = told(x, kind, a[0], a[1]);
                for (int act = 0; act < 4; act++) {
                    edge.due("KIND " + kind + " of RUNNER " + a[0] + " from " + a[1] + ", act " + act,
                            x.voice(0, act, 100), g.voice(act, 100));
                }
            }
        }
        TrainMile x = world(0);
        for (int kind : new int[] {5, 7}) {
            Going g = told(x, kind, 11, 24);
            for (int act = 0; act < 4; act++) {
                edge.due("KIND " + kind + " from GOAL, act " + act, x.voice(0, act, 100), g.voice(act, 100));
            }
        }
    }

    private static void promise36None() {
        edge.says("THE TRACE's i-th. NONE: there is none such");
        edge.in(Worlds::fresh);
        for (int i : new int[] {0, 1, -1, 39, 40, Integer.MIN_VALUE, Integer.MAX_VALUE}) {
            edge.refuses("at first: trace(" + i + ")", x -> x.trace(i), Check.NONE);
        }
        // Of busy() the latest is tell of a SWAPPED: 70 12 13 11 10 12.
        edge.in(Worlds::busy);
        edge.takes("the first", x -> x.trace(0), 70);
        edge.takes("the last", x -> x.trace(5), 12);
        edge.takes("told(10)", x -> x.told(10), 6);
        for (int i : new int[] {-1, 6, 39, 40, Integer.MIN_VALUE, Integer.MAX_VALUE}) {
            edge.refuses("trace(" + i + ")", x -> x.trace(i), Check.NONE);
        }
    }

    private static void promise36AsTheyBegan() {
        edge.says("as they began (what stands left is worked out first)");
        for (int kind = 0; kind < 8; kind++) {
            TrainMile x = world(3);
            Going g = told(x, kind, 2, 3);
            for (int act = 0; act < 4; act++) {
                g.began.clear();
                g.voice(act, 9);
                x.voice(0, act, 9);
                String of = "KIND " + kind + ", act " + act + ": ";
                edge.due(of + "told(10)", x.told(10), g.began.size());
                for (int i = 0; i < g.began.size(); i++) {
                    edge.due(of + "trace(" + i + ")", x.trace(i), g.began.get(i));
                }
                edge.due(of + "none behind", x.trace(g.began.size()), Check.NONE);
            }
        }
    }

    private static void promise36TheLatest() {
        edge.says("the numbers of BODIES of the latest voice()");
        TrainMile x = Worlds.busy();
        x.voice(1, 3, 0);
        edge.due("eight", x.told(10), 8);
        x.voice(0, 0, 0);
        edge.due("one", x.told(10), 1);
        edge.due("it", x.trace(0), 10);
        edge.due("none of the one ahead", x.trace(1), Check.NONE);
        x.forget(0);
        x.road(4);
        x.race();
        x.image();
        x.restore();
        edge.due("it stays, whatever is done", x.trace(0), 10);
        edge.due("it stays, whatever is done", x.told(10), 1);
    }

    private static void promise36RefusedLeavesIt() {
        edge.says("one that answers a finding changes nothing but what found() tells");
        edge.in(Worlds::busy);
        edge.refuses("no such GOING", x -> x.voice(5, 0, 0), Check.BEYOND);
        edge.refuses("no such GOING", x -> x.voice(-1, 3, 0), Check.BEYOND);
        edge.refuses("no such act", x -> x.voice(0, 4, 0), Check.BEYOND);
        edge.refuses("no such act", x -> x.voice(0, -1, 0), Check.BEYOND);
    }

    // ---- the KINDS as classes

    private static class Going {
        final int r;
        final int m;
        final List<Integer> began = new ArrayList<>();

        Going(int r, int m) {
            this.r = r;
            this.m = m;
        }

        int voice(int act, int x) {
            return act == 0 ? go(x) : act == 1 ? show(x) : act == 2 ? weigh(x) : tell(x);
        }

        int go(int x) {
            began.add(10);
            return x + m;
        }

        int show(int x) {
            began.add(11);
            return go(x) * 2;
        }

        int weigh(int x) {
            began.add(12);
            return x - r;
        }

        int tell(int x) {
            began.add(13);
            return show(x) ^ weigh(x);
        }
    }

    private static class Run extends Going {
        Run(int r, int m) {
            super(r, m);
        }

        @Override
        int weigh(int x) {
            began.add(20);
            return super.weigh(x) + m;
        }
    }

    private static final class Walked extends Run {
        Walked(int r, int m) {
            super(r, m);
        }

        @Override
        int go(int x) {
            began.add(30);
            return super.go(x + 1);
        }

        @Override
        int weigh(int x) {
            began.add(31);
            return super.weigh(x) * 2;
        }
    }

    private static class Short extends Going {
        Short(int r, int m) {
            super(r, m);
        }

        @Override
        int show(int x) {
            began.add(40);
            return super.show(x) - weigh(x);
        }
    }

    private static final class Ridden extends Short {
        Ridden(int r, int m) {
            super(r, m);
        }

        @Override
        int tell(int x) {
            began.add(50);
            return super.tell(x) + 1;
        }

        @Override
        int go(int x) {
            began.add(51);
            return super.go(x - r);
        }
    }

    private static final class Carried extends Going {
        Carried(int r, int m) {
            super(r, m);
        }

        @Override
        int weigh(int x) {
            began.add(60);
            return super.weigh(x) ^ go(x);
        }
    }

    private static final class Swapped extends Going {
        Swapped(int r, int m) {
            super(r, m);
        }

        @Override
        int tell(int x) {
            began.add(70);
            return weigh(x) - super.tell(x);
        }
    }

    private static final class Missed extends Run {
        Missed(int r, int m) {
            super(r, m);
        }

        @Override
        int show(int x) {
            began.add(80);
            return super.show(x + m);
        }

        @Override
        int weigh(int x) {
            began.add(81);
            return super.weigh(x - 1);
        }
    }
}
