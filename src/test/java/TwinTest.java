import java.util.Random;

/**
 * Random runs of calls, on a TrainMile and on its slow Twin: each answer must be the same.
 * The seeds are fixed, so that each run of the test is the same.
 */
public final class TwinTest {
    private static final Check check = new Check("TwinTest");
    private static final int RUNS = 1500;
    private static final int CALLS = 512;
    private static final int MOST_AT_ONCE = 12;

    private final Random random;
    private final TrainMile x = new TrainMile();
    private final Twin twin = new Twin();
    private final int run;
    // Some runs give many wrong arguments, most give few.
    private final int wrongOneIn;
    private int calls;

    private TwinTest(int run) {
        this.run = run;
        random = new Random(run);
        wrongOneIn = run % 5 == 0 ? 4 : 40;
    }

    public static void main(String[] args) {
        int runs = args.length > 0 ? Integer.parseInt(args[0]) : RUNS;
        int from = args.length > 1 ? Integer.parseInt(args[1]) : 0;
        for (int run = from; run < from + runs && check.wrong() < 20; run++) {
            new TwinTest(run).go();
        }
        oddsByHardLaws();
        check.end();
    }

    /** Laws that leap from the quickest pace to the slowest one, by what e and f tell. */
    private static void oddsByHardLaws() {
        String[] laws = {
            "99", "(f>97)+(f<4)*99", "(e+f>150)*99+b", "(f>99)*98+(f<2)*99+50", "f*2", "100-f", "e*f/7", "f+e-b*9",
            "(f-(f/2)*2)*90+e-b", "99-(e>99)*97-(f>99)*97", "1", "(b<7)*98+1",
        };
        for (String law : laws) {
            TwinTest t = new TwinTest(0);
            t.due("road", t.x.road(9), t.twin.road(9), 9);
            t.due("runner", t.x.runner(30, 5), t.twin.runner(30, 5), 30, 5);
            t.feedBoth(law);
            t.due("text " + law, t.x.text(0), t.twin.text(0), 0);
            for (int m = 1; m <= 6; m += m == 3 ? 3 : 1) {
                for (int minutes = m; minutes <= 100 * m; minutes += 17 * m) {
                    for (int what = 0; what < 2; what++) {
                        t.due("law " + law + ": odds", t.x.odds(0, m, minutes, what), t.twin.odds(0, m, minutes, what),
                                0, m, minutes, what);
                    }
                }
            }
        }
    }

    private void go() {
        int wrong = check.wrong();
        if (run % 3 != 0) {
            due("road", x.road(4 + run % 21), twin.road(4 + run % 21));
        }
        while (calls < CALLS - MOST_AT_ONCE && check.wrong() == wrong) {
            call();
        }
    }

    private void due(String call, long got, long want, long... args) {
        calls++;
        StringBuilder text = new StringBuilder("run ").append(run).append(": ").append(call);
        for (long a : args) {
            text.append(' ').append(a);
        }
        check.due(text.toString(), got, want);
    }

    /** A number from low to high, or now and then one beyond. */
    private int pick(int low, int high) {
        if (random.nextInt(wrongOneIn) == 0) {
            int[] beyond = {low - 1, high + 1, -1, Integer.MIN_VALUE, Integer.MAX_VALUE, random.nextInt()};
            return beyond[random.nextInt(beyond.length)];
        }
        return high < low ? low : low + random.nextInt(high - low + 1);
    }

    private int runner() {
        return pick(0, runners() - 1);
    }

    private int runners() {
        return twin.told(2);
    }

    private int goings() {
        return twin.told(3);
    }

    private int pieces() {
        return twin.told(0);
    }

    private int ends() {
        if (random.nextInt(wrongOneIn) == 0) {
            return random.nextBoolean() ? random.nextInt(2600) - 50 : random.nextInt();
        }
        int from = random.nextInt(pieces() + 1);
        int to = Math.min(pieces() + random.nextInt(wrongOneIn) / (wrongOneIn - 1), from + 1 + random.nextInt(8));
        return 100 * from + to;
    }

    private void call() {
        int w = random.nextInt(100);
        if (calls < 150 && w < 70) {
            build();
        } else if (w < 30) {
            build();
        } else if (w < 45) {
            raceCalls();
        } else if (w < 55) {
            texts();
        } else if (w < 75) {
            timesTell();
        } else if (w < 80) {
            entries();
        } else {
            rest();
        }
    }

    private void build() {
        int a;
        int b;
        int c;
        int d;
        switch (random.nextInt(16)) {
            case 0 -> {
                a = pick(0, pieces() - 1);
                b = pick(-4, 9);
                due("climb", x.climb(a, b), twin.climb(a, b), a, b);
            }
            case 1 -> {
                a = pick(0, 9);
                due("heat", x.heat(a), twin.heat(a), a);
            }
            case 2, 3 -> {
                a = pick(1, pieces() - 1);
                boolean is = random.nextInt(4) > 0;
                due("mat", x.mat(a, is), twin.mat(a, is), a, is ? 1 : 0);
            }
            case 4 -> {
                a = pick(0, pieces());
                b = random.nextInt(3) > 0 ? pick(0, 3) : pick(0, 9);
                due("deaf", x.deaf(a, b), twin.deaf(a, b), a, b);
            }
            case 5, 6 -> {
                a = ends();
                b = random.nextInt(3) > 0 ? pick(1, 20) : pick(1, 300);
                c = random.nextInt(3) > 0 ? pick(0, 60) : pick(0, 999);
                d = random.nextInt(2) > 0 ? 0 : random.nextInt(2) > 0 ? pick(1, 20) : pick(0, 99);
                due("way", x.way(a, b, c, d), twin.way(a, b, c, d), a, b, c, d);
            }
            case 7, 8 -> {
                a = random.nextInt(3) > 0 ? pick(1, 8) : pick(1, 30);
                b = random.nextInt(3) > 0 ? pick(0, 4) : pick(0, 99);
                due("runner", x.runner(a, b), twin.runner(a, b), a, b);
            }
            case 15 -> {
                if (random.nextInt(10) == 0) {
                    a = pick(4, 24);
                    due("road", x.road(a), twin.road(a), a);
                } else {
                    a = random.nextInt(4) == 0 ? pick(0, goings()) : pick(Math.max(0, goings() - 2), goings());
                    due("forget", x.forget(a), twin.forget(a), a);
                }
            }
            default -> {
                int kind = pick(0, 7);
                a = runner();
                b = ends();
                c = switch (kind) {
                    case 0 -> pick(0, random.nextInt(2) > 0 ? 9 : 99);
                    case 1, 2 -> pick(0, 20);
                    case 3, 4 -> pick(0, twin.told(1) - 1);
                    case 5, 6 -> runner();
                    default -> random.nextInt();
                };
                due("going", x.going(kind, a, b, c), twin.going(kind, a, b, c), kind, a, b, c);
                if (kind == 3 || kind == 4) {
                    // Most ways begin elsewhere: try a few more marks, so that some do fit.
                    for (int k = 0; k < 3; k++) {
                        b = ends();
                        c = pick(0, twin.told(1) - 1);
                        due("going", x.going(kind, a, b, c), twin.going(kind, a, b, c), kind, a, b, c);
                    }
                }
            }
        }
    }

    private void raceCalls() {
        int a = runner();
        int b = pick(0, pieces());
        switch (random.nextInt(8)) {
            case 0, 1 -> {
                due("race", x.race(), twin.race());
                due("told", x.told(4), twin.told(4), 4);
            }
            case 2 -> due("would", x.would(a, b), twin.would(a, b), a, b);
            case 3 -> due("heard", x.heard(a, b), twin.heard(a, b), a, b);
            case 4 -> due("off", x.off(a), twin.off(a), a);
            case 5 -> {
                int c = pick(0, 24);
                int d = pick(0, pieces() - 1);
                int e = pick(0, 99);
                int f = pick(0, 99);
                due("pace", x.pace(a, c, d, e, f), twin.pace(a, c, d, e, f), a, c, d, e, f);
            }
            case 6 -> {
                int m = pick(1, random.nextInt(8) == 0 ? 8 : 4);
                int c = pick(0, Math.max(1, Math.min(m, 8)) * (random.nextInt(2) > 0 ? 10 : 40));
                int d = pick(0, 1);
                due("odds", x.odds(a, m, c, d), twin.odds(a, m, c, d), a, m, c, d);
            }
            default -> {
                int v = pick(0, 65535);
                due("draw", x.draw(v), twin.draw(v), v);
            }
        }
    }

    private void texts() {
        switch (random.nextInt(8)) {
            case 0 -> {
                long word = random.nextLong();
                int n = pick(1, 8);
                due("feed", x.feed(word, n), twin.feed(word, n), word, n);
            }
            case 1 -> {
                int use = pick(0, 1);
                due("text", x.text(use), twin.text(use), use);
            }
            default -> {
                String text = texted(random.nextInt(4));
                if (random.nextInt(4) == 0) {
                    text = spoilt(text);
                }
                feedBoth(text);
                int use = random.nextInt(2);
                due("text \"" + text + "\"", x.text(use), twin.text(use), use);
            }
        }
    }

    private void feedBoth(String text) {
        for (int i = 0; i < text.length(); i += 8) {
            int n = Math.min(8, text.length() - i);
            long word = 0;
            for (int k = n - 1; k >= 0; k--) {
                word = word << 8 | text.charAt(i + k);
            }
            due("feed", x.feed(word, n), twin.feed(word, n), word, n);
        }
    }

    private String texted(int depth) {
        int w = random.nextInt(depth <= 0 ? 2 : 6);
        if (w == 0) {
            return String.valueOf(random.nextInt(random.nextInt(3) > 0 ? 12 : 10000));
        }
        if (w == 1) {
            return String.valueOf((char) ('a' + random.nextInt(6)));
        }
        if (w == 2) {
            return "!" + texted(0);
        }
        if (w == 3) {
            return (random.nextInt(3) > 0 ? "(" : "!(") + texted(depth - 1) + ")";
        }
        char sign = "|&<=>+-*/+-*".charAt(random.nextInt(12));
        return texted(depth - 1) + sign + texted(depth - 1);
    }

    private String spoilt(String text) {
        String signs = "|&<=>+-*/!()0123456789abcdefg! (" + (char) 255;
        StringBuilder spoilt = new StringBuilder(text);
        for (int k = 1 + random.nextInt(2); k > 0; k--) {
            int at = random.nextInt(spoilt.length() + 1);
            char sign = signs.charAt(random.nextInt(signs.length()));
            if (random.nextBoolean() || at == spoilt.length()) {
                spoilt.insert(at, sign);
            } else if (random.nextBoolean()) {
                spoilt.setCharAt(at, sign);
            } else {
                spoilt.deleteCharAt(at);
            }
        }
        return spoilt.toString();
    }

    private void timesTell() {
        int a = runner();
        int struck = pick(0, (1 << runners()) - 1);
        switch (random.nextInt(11)) {
            case 0 -> {
                int v = pick(1, random.nextInt(3) > 0 ? 8 : 30);
                due("least", x.least(v), twin.least(v), v);
            }
            case 1, 2 -> {
                int i = pick(0, 4);
                for (int what = 0; what < 5; what++) {
                    due("gap", x.gap(a, i, what), twin.gap(a, i, what), a, i, what);
                }
            }
            case 3 -> {
                int e = pick(0, random.nextInt(3) > 0 ? 6 : 30);
                int what = pick(0, 1);
                due("company", x.company(e, what), twin.company(e, what), e, what);
            }
            case 4 -> {
                int mark = pick(1, pieces() - 1);
                int what = pick(0, 1);
                due("misses", x.misses(mark, what), twin.misses(mark, what), mark, what);
            }
            case 5 -> due("odd", x.odd(a), twin.odd(a), a);
            case 6 -> {
                int what = pick(0, 3);
                due("judge", x.judge(what), twin.judge(what), what);
            }
            case 7 -> due("place", x.place(a, struck), twin.place(a, struck), a, struck);
            case 8 -> due("up", x.up(struck), twin.up(struck), struck);
            case 9 -> {
                int from = pick(0, pieces() - 1);
                int minute = pick(0, random.nextInt(3) > 0 ? 60 : 2000);
                int to = pick(Math.max(0, Math.min(from, 24)) + 1, pieces());
                int v = random.nextInt(3) > 0 ? pick(0, 8) : pick(0, 60);
                for (int what = 0; what < 2; what++) {
                    due("earliest", x.earliest(from, minute, to, v, what), twin.earliest(from, minute, to, v, what),
                            from, minute, to, v, what);
                }
            }
            default -> {
                int what = pick(0, 1);
                due("fewest", x.fewest(what), twin.fewest(what), what);
            }
        }
    }

    private void entries() {
        int a = runner();
        if (random.nextInt(3) > 0) {
            int day = random.nextInt(3) > 0 ? pick(0, 1) : pick(0, 365);
            int town = pick(0, random.nextInt(2) > 0 ? 9 : 30);
            int from = pick(0, 23);
            int to = Math.min(24, Math.max(0, Math.min(from, 24)) + 1 + random.nextInt(4));
            int hours = random.nextInt(wrongOneIn) == 0 ? random.nextInt(2600) : 100 * from + to;
            due("entry", x.entry(a, day, town, hours), twin.entry(a, day, town, hours), a, day, town, hours);
        } else {
            int what = pick(0, 1);
            due("same", x.same(a, what), twin.same(a, what), a, what);
        }
    }

    private void rest() {
        int going = pick(0, goings() - 1);
        switch (random.nextInt(9)) {
            case 0 -> {
                int act = pick(0, 3);
                int v = random.nextBoolean() ? random.nextInt(20) : random.nextInt();
                due("voice", x.voice(going, act, v), twin.voice(going, act, v), going, act, v);
                int i = pick(0, 6);
                due("trace", x.trace(i), twin.trace(i), i);
            }
            case 1 -> {
                int what = pick(0, 4);
                due("goingIs", x.goingIs(going, what), twin.goingIs(going, what), going, what);
            }
            case 2 -> {
                int kind = pick(0, 7);
                due("as", x.as(going, kind), twin.as(going, kind), going, kind);
            }
            case 3 -> due("image", x.image(), twin.image());
            case 4 -> {
                if (random.nextInt(3) == 0) {
                    due("restore", x.restore(), twin.restore());
                }
            }
            case 5 -> {
                int what = pick(0, 10);
                due("told", x.told(what), twin.told(what), what);
            }
            case 6 -> {
                int k = pick(1, 5);
                due("found", x.found(k), twin.found(k), k);
            }
            default -> sheets();
        }
    }

    private void sheets() {
        int a = pick(0, 3);
        switch (random.nextInt(6)) {
            case 0 -> {
                int[] fits = {0, 8, 16, 16, 32, 8};
                int bits = random.nextInt(wrongOneIn) == 0 ? pick(0, 40) : fits[random.nextInt(fits.length)];
                int n = random.nextInt(3) > 0 ? pick(1, 6) : pick(0, 24);
                due("sheet", x.sheet(a, bits, n), twin.sheet(a, bits, n), a, bits, n);
            }
            case 1, 2 -> {
                int i = pick(0, 5);
                int v = random.nextInt(3) > 0 ? random.nextInt(30) : random.nextInt();
                due("put", x.put(a, i, v), twin.put(a, i, v), a, i, v);
            }
            case 3 -> {
                int i = pick(0, 3);
                int b = pick(0, 3);
                int j = pick(0, 3);
                int n = pick(0, 4);
                due("move", x.move(a, i, b, j, n), twin.move(a, i, b, j, n), a, i, b, j, n);
            }
            case 4 -> {
                int s = runner();
                due("write", x.write(s, a), twin.write(s, a), s, a);
            }
            default -> {
                for (int what = 0; what < 3; what++) {
                    due("parts", x.parts(a, what), twin.parts(a, what), a, what);
                }
            }
        }
    }
}
