import java.util.ArrayList;
import java.util.Arrays;
import java.util.Comparator;
import java.util.HashMap;
import java.util.List;
import java.util.Map;
import java.util.TreeMap;

/**
 * The document a second time, as slow and as plain as can be: every choice is tried, every row is
 * gone through. It shares no way of working with TrainMile, so that a slip in one isn't in the other.
 */
final class Twin {
    private static final int BEYOND = 1;
    private static final int NONE = 2;
    private static final int STATE = 3;
    private static final int FULL = 4;
    private static final int KIND = 5;

    private record Way(int from, int to, int minutes, int first, int each) {
        int there(int minute) {
            int leaves = minute;
            if (each > 0) {
                leaves = first;
                while (leaves < minute) {
                    leaves += each;
                }
            }
            return leaves + minutes;
        }
    }

    private record Entry(int day, int town, int from, int to) {
        boolean overFor(Entry other) {
            return to + Math.abs(town - other.town) / 3 <= other.from;
        }

        boolean clashes(Entry other) {
            return day == other.day && !overFor(other) && !other.overFor(this);
        }
    }

    private static final class Runner {
        final int strength;
        final int begins;
        final List<Entry> entries = new ArrayList<>();

        Runner(int strength, int begins) {
            this.strength = strength;
            this.begins = begins;
        }

        Runner copy() {
            Runner c = new Runner(strength, begins);
            c.entries.addAll(entries);
            return c;
        }
    }

    /** The voices as Java itself finds bodies. */
    private static class Going {
        final int kind;
        final int r;
        final int m;
        final int to;
        final int number;
        List<Integer> trace = new ArrayList<>();

        Going(int kind, int r, int m, int to, int number) {
            this.kind = kind;
            this.r = r;
            this.m = m;
            this.to = to;
            this.number = number;
        }

        int go(int x) {
            trace.add(10);
            return x + m;
        }

        int show(int x) {
            trace.add(11);
            return go(x) * 2;
        }

        int weigh(int x) {
            trace.add(12);
            return x - r;
        }

        int tell(int x) {
            trace.add(13);
            return show(x) ^ weigh(x);
        }
    }

    private static class Run extends Going {
        Run(int kind, int r, int m, int to, int number) {
            super(kind, r, m, to, number);
        }

        @Override
        int weigh(int x) {
            trace.add(20);
            return super.weigh(x) + m;
        }
    }

    private static final class Walked extends Run {
        Walked(int r, int m, int to, int number) {
            super(2, r, m, to, number);
        }

        @Override
        int go(int x) {
            trace.add(30);
            return super.go(x + 1);
        }

        @Override
        int weigh(int x) {
            trace.add(31);
            return super.weigh(x) * 2;
        }
    }

    private static class Short extends Going {
        Short(int kind, int r, int m, int to, int number) {
            super(kind, r, m, to, number);
        }

        @Override
        int show(int x) {
            trace.add(40);
            return super.show(x) - weigh(x);
        }
    }

    private static final class Ridden extends Short {
        Ridden(int r, int m, int to, int number) {
            super(4, r, m, to, number);
        }

        @Override
        int tell(int x) {
            trace.add(50);
            return super.tell(x) + 1;
        }

        @Override
        int go(int x) {
            trace.add(51);
            return super.go(x - r);
        }
    }

    private static final class Carried extends Going {
        Carried(int r, int m, int to, int number) {
            super(5, r, m, to, number);
        }

        @Override
        int weigh(int x) {
            trace.add(60);
            return super.weigh(x) ^ go(x);
        }
    }

    private static final class Swapped extends Going {
        Swapped(int r, int m, int to, int number) {
            super(6, r, m, to, number);
        }

        @Override
        int tell(int x) {
            trace.add(70);
            return weigh(x) - super.tell(x);
        }
    }

    private static final class Missed extends Run {
        Missed(int r, int m, int to, int number) {
            super(7, r, m, to, number);
        }

        @Override
        int show(int x) {
            trace.add(80);
            return super.show(x + m);
        }

        @Override
        int weigh(int x) {
            trace.add(81);
            return super.weigh(x - 1);
        }
    }

    private static Going goingOf(int kind, int r, int m, int to, int number) {
        return switch (kind) {
            case 0 -> new Going(0, r, m, to, number);
            case 1 -> new Run(1, r, m, to, number);
            case 2 -> new Walked(r, m, to, number);
            case 3 -> new Short(3, r, m, to, number);
            case 4 -> new Ridden(r, m, to, number);
            case 5 -> new Carried(r, m, to, number);
            case 6 -> new Swapped(r, m, to, number);
            default -> new Missed(r, m, to, number);
        };
    }

    /** All that an image keeps. */
    private static final class State {
        int n = 4;
        int heat;
        int x = 1;
        int races;
        int least = 3;
        Map<Integer, Integer> climb = new HashMap<>();
        Map<Integer, Integer> deaf = new HashMap<>();
        List<Integer> mats = new ArrayList<>(List.of(0, 4));
        List<Way> ways = new ArrayList<>();
        List<Runner> runners = new ArrayList<>();
        List<Going> goings = new ArrayList<>();
        List<TreeMap<Integer, Integer>> heard = new ArrayList<>();
        List<Integer> off = new ArrayList<>();
        String tape = "";
        String[] texts = {null, null};

        State copy() {
            State c = new State();
            c.n = n;
            c.heat = heat;
            c.x = x;
            c.races = races;
            c.least = least;
            c.climb = new HashMap<>(climb);
            c.deaf = new HashMap<>(deaf);
            c.mats = new ArrayList<>(mats);
            c.ways = new ArrayList<>(ways);
            runners.forEach(r -> c.runners.add(r.copy()));
            c.goings = new ArrayList<>(goings);
            heard.forEach(h -> c.heard.add(new TreeMap<>(h)));
            c.off = new ArrayList<>(off);
            c.tape = tape;
            c.texts = texts.clone();
            return c;
        }
    }

    private State s = new State();
    private State image;
    private int images;
    private final int[] found = new int[6];
    private List<Integer> trace = new ArrayList<>();
    private final long[][] sheets = new long[4][];
    private final int[] bits = new int[4];

    private int no(int k) {
        found[k]++;
        return -1000000 - k;
    }

    private boolean shoe(int i) {
        return i >= 0 && i < s.runners.size();
    }

    private boolean mark(int m) {
        return m >= 0 && m <= s.n;
    }

    private static boolean in(int v, int a, int b) {
        return a <= v && v <= b;
    }

    int road(int n) {
        if (!in(n, 4, 24)) {
            return no(BEYOND);
        }
        s.n = n;
        s.climb.clear();
        s.mats = new ArrayList<>(List.of(0, n));
        s.ways.clear();
        s.goings.clear();
        s.heard.forEach(TreeMap::clear);
        s.off.clear();
        return n;
    }

    int climb(int piece, int v) {
        if (!in(piece, 0, s.n - 1) || !in(v, -4, 9)) {
            return no(BEYOND);
        }
        Integer was = s.climb.put(piece, v);
        return was == null ? 0 : was;
    }

    int heat(int v) {
        if (!in(v, 0, 9)) {
            return no(BEYOND);
        }
        int was = s.heat;
        s.heat = v;
        return was;
    }

    int mat(int mark, boolean is) {
        if (mark <= 0 || mark >= s.n) {
            return no(BEYOND);
        }
        boolean was = s.mats.remove((Integer) mark);
        if (is) {
            s.mats.add(mark);
        }
        return was == is ? 0 : 1;
    }

    int deaf(int mark, int v) {
        if (!mark(mark) || !in(v, 0, 9)) {
            return no(BEYOND);
        }
        Integer was = s.deaf.put(mark, v);
        return was == null ? 0 : was;
    }

    int way(int ends, int minutes, int first, int each) {
        if (ends < 0 || !mark(ends / 100) || !mark(ends % 100) || ends / 100 >= ends % 100 || !in(minutes, 1, 300)
                || !in(each, 0, 99) || each > 0 && !in(first, 0, 999)) {
            return no(BEYOND);
        }
        if (s.ways.size() == 12) {
            return no(FULL);
        }
        s.ways.add(new Way(ends / 100, ends % 100, minutes, first, each));
        return s.ways.size() - 1;
    }

    /** Every set of ways, gone in their order: {minute, ways} of the best with so many ways at least. */
    private int[] best(int from, int minute, int to, int v, int atLeast) {
        List<Way> sorted = new ArrayList<>(s.ways);
        sorted.sort(Comparator.comparingInt(Way::from));
        int[] best = null;
        for (int set = 0; set < 1 << sorted.size(); set++) {
            int count = Integer.bitCount(set);
            if (count < atLeast) {
                continue;
            }
            int at = from;
            int now = minute;
            boolean can = true;
            for (int i = 0; i < sorted.size() && can; i++) {
                if ((set >> i & 1) == 1) {
                    Way w = sorted.get(i);
                    can = w.from >= at && (v > 0 || w.from == at);
                    now += (w.from - at) * v;
                    now = can ? w.there(now) : now;
                    at = w.to;
                }
            }
            can = can && at <= to && (v > 0 || at == to);
            now += (to - at) * v;
            if (can && (best == null || now < best[0] || now == best[0] && count < best[1])) {
                best = new int[] {now, count};
            }
        }
        return best;
    }

    int earliest(int from, int minute, int to, int v, int what) {
        if (!mark(from) || !mark(to) || to <= from || !in(minute, 0, 2000) || !in(v, 0, 60) || !in(what, 0, 1)) {
            return no(BEYOND);
        }
        int[] best = best(from, minute, to, v, 0);
        return best == null ? no(NONE) : best[what];
    }

    /** The first set of so many marks, in their order, that stands between the ends of each way. */
    private List<Integer> hitting(List<Integer> chosen, int more) {
        if (more == 0) {
            for (Way w : s.ways) {
                if (w.to - w.from >= 2 && chosen.stream().noneMatch(m -> m > w.from && m < w.to)) {
                    return null;
                }
            }
            return chosen;
        }
        int first = chosen.isEmpty() ? 1 : chosen.get(chosen.size() - 1) + 1;
        for (int m = first; m < s.n; m++) {
            List<Integer> next = new ArrayList<>(chosen);
            next.add(m);
            List<Integer> set = hitting(next, more - 1);
            if (set != null) {
                return set;
            }
        }
        return null;
    }

    int fewest(int what) {
        if (!in(what, 0, 1)) {
            return no(BEYOND);
        }
        for (int k = 0;; k++) {
            List<Integer> set = hitting(List.of(), k);
            if (set != null) {
                return what == 0 ? k : set.stream().mapToInt(m -> 1 << m).sum();
            }
        }
    }

    int runner(int strength, int begins) {
        if (!in(strength, 1, 30) || !in(begins, 0, 99)) {
            return no(BEYOND);
        }
        if (s.runners.size() == 12) {
            return no(FULL);
        }
        s.runners.add(new Runner(strength, begins));
        s.heard.add(new TreeMap<>());
        return s.runners.size() - 1;
    }

    int going(int kind, int runner, int ends, int number) {
        if (!in(kind, 0, 7) || !shoe(runner) || ends < 0) {
            return no(BEYOND);
        }
        int from = ends / 100;
        int to = ends % 100;
        if (!in(from, 0, "57".indexOf('0' + kind) >= 0 ? s.n : s.n - 1)) {
            return no(BEYOND);
        }
        if ("126".indexOf('0' + kind) >= 0 && !in(to, from + 1, s.n)) {
            return no(BEYOND);
        }
        int[] most = {99, 20, 20, s.ways.size() - 1, s.ways.size() - 1, s.runners.size() - 1, s.runners.size() - 1};
        if (kind < 7 && !in(number, 0, most[kind])) {
            return no(BEYOND);
        }
        if (kind == 3 && (s.ways.get(number).each != 0 || s.ways.get(number).from != from)) {
            return no(KIND);
        }
        if (kind == 4 && (s.ways.get(number).each == 0 || s.ways.get(number).from != from)) {
            return no(KIND);
        }
        if (s.goings.size() == 40) {
            return no(FULL);
        }
        s.goings.add(goingOf(kind, runner, from, to, number));
        return s.goings.size() - 1;
    }

    int forget(int n) {
        if (!in(n, 0, s.goings.size())) {
            return no(BEYOND);
        }
        int count = s.goings.size() - n;
        s.goings = new ArrayList<>(s.goings.subList(0, n));
        return count;
    }

    int as(int going, int kind) {
        if (!in(going, 0, s.goings.size() - 1) || !in(kind, 0, 7)) {
            return no(BEYOND);
        }
        Class<?>[] classes = {
            Going.class, Run.class, Walked.class, Short.class, Ridden.class, Carried.class, Swapped.class, Missed.class,
        };
        Going g = s.goings.get(going);
        return classes[kind].isInstance(g) ? g.number : no(KIND);
    }

    int goingIs(int going, int what) {
        if (!in(going, 0, s.goings.size() - 1) || !in(what, 0, 4)) {
            return no(BEYOND);
        }
        Going g = s.goings.get(going);
        return new int[] {g.kind, g.r, g.m, g.to, g.number}[what];
    }

    int draw(int v) {
        if (!in(v, 0, 65535)) {
            return no(BEYOND);
        }
        int was = s.x;
        s.x = v;
        return was;
    }

    private int law(int strength, int b, int piece, int e, int f) {
        int c = s.climb.getOrDefault(piece, 0);
        int told = s.texts[0] == null ? strength + c / 2 + b / 6
                : new Reading(s.texts[0], strength, b, c, s.heat, e, f).value();
        return told < 1 ? 1 : told > 99 ? 99 : told;
    }

    /** A body's paces so far; running one more piece adds to them. */
    private int runs(int strength, List<Integer> paces, int piece) {
        int e = paces.isEmpty() ? 0 : paces.get(0);
        int f = paces.isEmpty() ? 0 : paces.get(paces.size() - 1);
        int pace = law(strength, paces.size(), piece, e, f);
        paces.add(pace);
        return pace;
    }

    /** The marks at which a runner is with their minutes; -1 is among them, if it left the road. */
    private TreeMap<Integer, Integer> run(int r) {
        TreeMap<Integer, Integer> is = new TreeMap<>();
        Runner runner = s.runners.get(r);
        List<Integer> own = new ArrayList<>();
        int at = 0;
        int now = runner.begins;
        is.put(0, now);
        while (at < s.n) {
            Going does = null;
            for (Going g : s.goings) {
                if (g.r == r && g.m == at && g.kind != 5 && g.kind != 7) {
                    does = g;
                }
            }
            int kind = does == null ? -1 : does.kind;
            if (kind <= 0) {
                now += (kind == 0 ? does.number : 0) + runs(runner.strength, own, at);
                at++;
                is.put(at, now);
            } else if (kind <= 2) {
                while (at < does.to) {
                    int took = runs(runner.strength, own, at) + does.number;
                    now += kind == 2 ? took + took : took;
                    at++;
                    is.put(at, now);
                }
            } else if (kind <= 4) {
                Way w = s.ways.get(does.number);
                now = w.there(now);
                at = w.to;
                is.put(at, now);
                is.put(-1, 0);
            } else {
                List<Integer> fresh = new ArrayList<>();
                while (at < does.to) {
                    now += runs(s.runners.get(does.number).strength, fresh, at);
                    at++;
                    is.put(at, now);
                }
                is.put(-1, 0);
            }
        }
        return is;
    }

    private int on(int shoe, int mark) {
        for (int from = mark; from >= 0; from--) {
            for (int g = s.goings.size() - 1; g >= 0; g--) {
                Going c = s.goings.get(g);
                if (c.kind == 5 && c.r == shoe && c.m == from) {
                    return c.number;
                }
            }
        }
        return shoe;
    }

    int race() {
        List<TreeMap<Integer, Integer>> is = new ArrayList<>();
        s.off.clear();
        for (int r = 0; r < s.runners.size(); r++) {
            is.add(run(r));
            if (is.get(r).containsKey(-1)) {
                s.off.add(r);
            }
        }
        int atGoal = 0;
        for (int shoe = 0; shoe < s.runners.size(); shoe++) {
            TreeMap<Integer, Integer> heard = s.heard.get(shoe);
            heard.clear();
            for (int m = 0; m <= s.n; m++) {
                int on = on(shoe, m);
                if (on != shoe) {
                    s.off.add(shoe);
                }
                if (!s.mats.contains(m) || !is.get(on).containsKey(m)) {
                    continue;
                }
                boolean hears = true;
                if (m > 0) {
                    s.x = (int) ((s.x * 25173L + 13849) % 65536);
                    hears = s.x % 10 >= s.deaf.getOrDefault(m, 0);
                }
                for (Going g : s.goings) {
                    hears = hears && !(g.kind == 7 && g.r == on && g.m == m);
                }
                if (hears) {
                    heard.put(m, is.get(on).get(m));
                }
            }
            atGoal += heard.containsKey(s.n) ? 1 : 0;
        }
        s.races++;
        return atGoal;
    }

    int would(int runner, int mark) {
        if (!shoe(runner) || !mark(mark)) {
            return no(BEYOND);
        }
        return run(runner).getOrDefault(mark, -1);
    }

    int heard(int shoe, int mark) {
        if (!shoe(shoe) || !mark(mark)) {
            return no(BEYOND);
        }
        return s.heard.get(shoe).getOrDefault(mark, -1);
    }

    int off(int runner) {
        return shoe(runner) ? (s.off.contains(runner) ? 1 : 0) : no(BEYOND);
    }

    int pace(int runner, int b, int piece, int e, int f) {
        if (!shoe(runner) || !in(b, 0, 24) || !in(piece, 0, s.n - 1) || !in(e, 0, 99) || !in(f, 0, 99)) {
            return no(BEYOND);
        }
        return law(s.runners.get(runner).strength, b, piece, e, f);
    }

    int odds(int runner, int m, int minutes, int what) {
        if (!shoe(runner) || !in(m, 1, 8) || m > s.n || minutes < 0 || !in(what, 0, 1)) {
            return no(BEYOND);
        }
        int[] draws = {-1, 0, 0, 1};
        int count = 0;
        for (int row = 0; row < 1 << 2 * m; row++) {
            int e = 0;
            int f = 0;
            int sum = 0;
            for (int i = 0; i < m; i++) {
                int took = law(s.runners.get(runner).strength, i, i, e, f) + draws[row >> 2 * i & 3];
                f = took < 1 ? 1 : took;
                e = i == 0 ? f : e;
                sum += f;
            }
            if (what == 0 ? sum <= minutes : sum == minutes) {
                count++;
            }
        }
        return count;
    }

    int feed(long word, int n) {
        if (!in(n, 1, 8)) {
            return no(BEYOND);
        }
        if (s.tape.length() + n > 60) {
            return no(FULL);
        }
        for (int i = 0; i < n; i++) {
            s.tape += (char) (word & 255);
            word >>>= 8;
        }
        return s.tape.length();
    }

    int text(int use) {
        if (!in(use, 0, 1)) {
            return no(BEYOND);
        }
        String text = s.tape;
        s.tape = "";
        int fault = Reading.fault(text);
        if (fault >= 0) {
            return -10 - fault;
        }
        s.texts[use] = text;
        return 1;
    }

    int least(int v) {
        if (!in(v, 1, 30)) {
            return no(BEYOND);
        }
        int was = s.least;
        s.least = v;
        return was;
    }

    int gap(int shoe, int i, int what) {
        if (!shoe(shoe) || !in(what, 0, 4)) {
            return no(BEYOND);
        }
        List<Integer> marks = new ArrayList<>(s.heard.get(shoe).keySet());
        if (i < 0 || i >= marks.size() - 1) {
            return no(NONE);
        }
        int from = marks.get(i);
        int to = marks.get(i + 1);
        int left = s.heard.get(shoe).get(from);
        int there = s.heard.get(shoe).get(to);
        if (what == 4) {
            int[] best = best(from, left, to, s.least, 1);
            return best != null && best[0] <= there ? 1 : 0;
        }
        return new int[] {from, to, there - left, there - left >= s.least * (to - from) ? 1 : 0}[what];
    }

    private boolean together(int one, int two, int e) {
        List<Integer> marks = new ArrayList<>(s.heard.get(one).keySet());
        marks.retainAll(s.heard.get(two).keySet());
        return marks.size() >= 2
                && marks.stream().allMatch(m -> Math.abs(s.heard.get(one).get(m) - s.heard.get(two).get(m)) <= e);
    }

    int company(int e, int what) {
        if (!in(e, 0, 30) || !in(what, 0, 1)) {
            return no(BEYOND);
        }
        int pairs = 0;
        int shoes = 0;
        for (int one = 0; one < s.runners.size(); one++) {
            for (int two = 0; two < one; two++) {
                if (together(one, two, e)) {
                    pairs++;
                    shoes |= 1 << one | 1 << two;
                }
            }
        }
        return what == 0 ? pairs : shoes;
    }

    int misses(int mark, int what) {
        if (mark <= 0 || mark >= s.n || !in(what, 0, 1)) {
            return no(BEYOND);
        }
        int of = 0;
        int not = 0;
        for (TreeMap<Integer, Integer> h : s.heard) {
            if (!h.isEmpty() && h.firstKey() < mark && h.lastKey() > mark) {
                of++;
                not += h.containsKey(mark) ? 0 : 1;
            }
        }
        return what == 0 ? not : of;
    }

    private static long off(long[] row, int from, int to) {
        long[] part = Arrays.copyOfRange(row, from, to);
        Arrays.sort(part);
        long middle = part.length % 2 == 1 ? part[part.length / 2] : part[part.length / 2 - 1];
        return Arrays.stream(part).map(v -> Math.abs(v - middle)).sum();
    }

    long parts(int sheet, int what) {
        if (!in(sheet, 0, 3) || !in(what, 0, 2)) {
            return no(BEYOND);
        }
        long[] row = sheets[sheet];
        if (row == null) {
            return no(NONE);
        }
        if (row.length < 2) {
            return no(STATE);
        }
        long[] sums = new long[row.length];
        for (int k = 1; k < row.length; k++) {
            sums[k] = off(row, 0, k) + off(row, k, row.length);
        }
        long least = Arrays.stream(sums).skip(1).min().getAsLong();
        int place = 1;
        while (sums[place] != least) {
            place++;
        }
        return what == 0 ? place : what == 1 ? least : off(row, 0, row.length);
    }

    private int between(int shoe, int from, int to) {
        Integer left = s.heard.get(shoe).get(from);
        Integer there = s.heard.get(shoe).get(to);
        return left == null || there == null ? -1 : there - left;
    }

    int odd(int shoe) {
        if (!shoe(shoe)) {
            return no(BEYOND);
        }
        int a = between(shoe, 0, s.n / 2);
        int b = between(shoe, s.n / 2, s.n);
        if (s.texts[1] == null) {
            return b != -1 && a > b ? 1 : 0;
        }
        int c = (int) s.mats.stream().filter(m -> !s.heard.get(shoe).containsKey(m)).count();
        int e = 0;
        for (int other = 0; other < s.runners.size(); other++) {
            e += other != shoe && together(shoe, other, 1) ? 1 : 0;
        }
        return new Reading(s.texts[1], a, b, c, between(shoe, 0, s.n), e, s.runners.get(shoe).strength).value();
    }

    int judge(int what) {
        if (!in(what, 0, 3)) {
            return no(BEYOND);
        }
        int[] counts = new int[4];
        for (int i = 0; i < s.runners.size(); i++) {
            boolean odd = odd(i) != 0;
            boolean off = s.off.contains(i);
            counts[odd && off ? 0 : odd ? 1 : off ? 2 : 3]++;
        }
        return counts[what];
    }

    private int placed(int shoe, int struck) {
        List<Integer> minutes = new ArrayList<>();
        Integer own = null;
        for (int i = 0; i < s.runners.size(); i++) {
            TreeMap<Integer, Integer> h = s.heard.get(i);
            if ((struck & 1 << i) == 0 && h.containsKey(s.n)) {
                int took = h.get(s.n) - h.getOrDefault(0, 0);
                minutes.add(took);
                own = i == shoe ? Integer.valueOf(took) : own;
            }
        }
        if (own == null) {
            return 0;
        }
        minutes.sort(null);
        return 1 + minutes.indexOf(own);
    }

    private boolean set(int struck) {
        return struck >= 0 && struck < 1 << s.runners.size();
    }

    int place(int shoe, int struck) {
        if (!shoe(shoe) || !set(struck)) {
            return no(BEYOND);
        }
        int place = placed(shoe, struck);
        return place == 0 ? no(STATE) : place;
    }

    int up(int struck) {
        if (!set(struck)) {
            return no(BEYOND);
        }
        int count = 0;
        for (int i = 0; i < s.runners.size(); i++) {
            int place = placed(i, struck);
            count += place > 0 && place < placed(i, 0) ? 1 : 0;
        }
        return count;
    }

    int entry(int runner, int day, int town, int hours) {
        if (!shoe(runner) || !in(day, 0, 365) || !in(town, 0, 30) || hours < 0 || !in(hours / 100, 0, 23)
                || !in(hours % 100, 1, 24) || hours / 100 >= hours % 100) {
            return no(BEYOND);
        }
        List<Entry> entries = s.runners.get(runner).entries;
        if (entries.size() == 8) {
            return no(FULL);
        }
        entries.add(new Entry(day, town, hours / 100, hours % 100));
        return entries.size();
    }

    private static int most(List<Entry> free) {
        if (free.isEmpty()) {
            return 0;
        }
        List<Entry> rest = free.subList(1, free.size());
        List<Entry> behind = new ArrayList<>();
        rest.stream().filter(e -> !e.clashes(free.get(0))).forEach(behind::add);
        return Math.max(most(rest), 1 + most(behind));
    }

    int same(int runner, int what) {
        if (!shoe(runner) || !in(what, 0, 1)) {
            return no(BEYOND);
        }
        List<Entry> entries = s.runners.get(runner).entries;
        int clashes = 0;
        for (int i = 0; i < entries.size(); i++) {
            for (int j = 0; j < i; j++) {
                clashes += entries.get(i).clashes(entries.get(j)) ? 1 : 0;
            }
        }
        return what == 0 ? clashes : most(entries);
    }

    int voice(int going, int act, int x) {
        if (!in(going, 0, s.goings.size() - 1) || !in(act, 0, 3)) {
            return no(BEYOND);
        }
        Going g = s.goings.get(going);
        g.trace = new ArrayList<>();
        trace = g.trace;
        return switch (act) {
            case 0 -> g.go(x);
            case 1 -> g.show(x);
            case 2 -> g.weigh(x);
            default -> g.tell(x);
        };
    }

    int trace(int i) {
        return in(i, 0, Math.min(40, trace.size()) - 1) ? trace.get(i) : no(NONE);
    }

    int sheet(int sheet, int bits, int n) {
        if (!in(sheet, 0, 3) || !List.of(0, 8, 16, 32).contains(bits)) {
            return no(BEYOND);
        }
        if (bits == 0) {
            sheets[sheet] = null;
            return 1;
        }
        if (n < 0) {
            return no(STATE);
        }
        if (n > 24) {
            return no(BEYOND);
        }
        sheets[sheet] = new long[n];
        this.bits[sheet] = bits;
        return 1;
    }

    private void set(int sheet, int i, int v) {
        sheets[sheet][i] = (long) v << 64 - bits[sheet] >> 64 - bits[sheet];
    }

    int put(int sheet, int i, int v) {
        if (!in(sheet, 0, 3)) {
            return no(BEYOND);
        }
        if (sheets[sheet] == null) {
            return no(NONE);
        }
        if (!in(i, 0, sheets[sheet].length - 1)) {
            return no(BEYOND);
        }
        set(sheet, i, v);
        return 1;
    }

    int move(int sheet, int i, int other, int j, int n) {
        if (!in(sheet, 0, 3) || !in(other, 0, 3)) {
            return no(BEYOND);
        }
        if (sheets[sheet] == null || sheets[other] == null) {
            return no(NONE);
        }
        if (bits[sheet] != bits[other]) {
            return no(KIND);
        }
        if (n < 0 || i < 0 || j < 0 || i > sheets[sheet].length - n || j > sheets[other].length - n) {
            return no(BEYOND);
        }
        long[] were = sheets[sheet].clone();
        for (int k = 0; k < n; k++) {
            sheets[other][j + k] = were[i + k];
        }
        return n;
    }

    int write(int shoe, int sheet) {
        if (!shoe(shoe) || !in(sheet, 0, 3)) {
            return no(BEYOND);
        }
        if (sheets[sheet] == null) {
            return no(NONE);
        }
        int count = 0;
        Integer from = null;
        for (int to : s.heard.get(shoe).keySet()) {
            if (from != null && count < sheets[sheet].length) {
                int minutes = s.heard.get(shoe).get(to) - s.heard.get(shoe).get(from);
                set(sheet, count, minutes / (to - from));
                count++;
            }
            from = to;
        }
        return count;
    }

    int image() {
        image = s.copy();
        images++;
        return images;
    }

    int restore() {
        if (image == null) {
            return no(NONE);
        }
        s = image.copy();
        return s.n;
    }

    int told(int what) {
        if (!in(what, 0, 10)) {
            return no(BEYOND);
        }
        int entries = s.runners.stream().mapToInt(r -> r.entries.size()).sum();
        return new int[] {
            s.n, s.ways.size(), s.runners.size(), s.goings.size(), s.x, s.tape.length(), s.mats.size(), s.races,
            s.least, entries, Math.min(40, trace.size()),
        }[what];
    }

    int found(int k) {
        return in(k, 1, 5) ? found[k] : no(BEYOND);
    }

    /** A text that is read anew each time: it is split at the sign that binds least. */
    private static final class Reading {
        private final String text;
        private final int[] names;

        Reading(String text, int... names) {
            this.text = text;
            this.names = names;
        }

        int value() {
            return value(0, text.length());
        }

        private int value(int from, int to) {
            for (String signs : new String[] {"|", "&", "<=>", "+-", "*/"}) {
                int at = lastOf(signs, from, to);
                if (at >= 0) {
                    return join(text.charAt(at), value(from, at), value(at + 1, to));
                }
            }
            char sign = text.charAt(from);
            if (sign == '!') {
                return value(from + 1, to) == 0 ? 1 : 0;
            }
            if (sign == '(') {
                return value(from + 1, to - 1);
            }
            return sign >= 'a' ? names[sign - 'a'] : Integer.parseInt(text.substring(from, to));
        }

        private int lastOf(String signs, int from, int to) {
            int open = 0;
            for (int at = to - 1; at >= from; at--) {
                char sign = text.charAt(at);
                open += sign == ')' ? 1 : sign == '(' ? -1 : 0;
                if (open == 0 && signs.indexOf(sign) >= 0) {
                    return at;
                }
            }
            return -1;
        }

        private static int join(char sign, int a, int b) {
            return switch (sign) {
                case '|' -> a != 0 || b != 0 ? 1 : 0;
                case '&' -> a != 0 && b != 0 ? 1 : 0;
                case '<' -> a < b ? 1 : 0;
                case '=' -> a == b ? 1 : 0;
                case '>' -> a > b ? 1 : 0;
                case '+' -> a + b;
                case '-' -> a - b;
                case '*' -> (int) ((long) a * b);
                default -> b == 0 ? 0 : (int) ((long) a / b);
            };
        }

        /**
         * The place of the fault, or -1. It goes sign by sign, with a stack of what is open:
         * '!' and '(', and under each '(' whether its part of a comparison is done ('<').
         */
        static int fault(String text) {
            StringBuilder open = new StringBuilder();
            boolean compared = false;
            boolean wants = true;
            int digits = 0;
            for (int at = 0; at < text.length(); at++) {
                char sign = text.charAt(at);
                boolean digit = sign >= '0' && sign <= '9';
                long opened = open.chars().filter(c -> c != '<').count();
                if (wants && (sign == '!' || sign == '(') && opened < 5) {
                    if (sign == '(') {
                        open.append(compared ? "<(" : "(");
                        compared = false;
                    } else {
                        open.append('!');
                    }
                } else if (wants && (digit || sign >= 'a' && sign <= 'f')) {
                    wants = false;
                    digits = digit ? 1 : 0;
                    closeNots(open);
                } else if (!wants && digit && digits >= 1 && digits < 4) {
                    digits++;
                } else if (!wants && "|&+-*/".indexOf(sign) >= 0) {
                    wants = true;
                    compared = compared && "|&".indexOf(sign) < 0;
                } else if (!wants && "<=>".indexOf(sign) >= 0 && !compared) {
                    wants = true;
                    compared = true;
                } else if (!wants && sign == ')' && open.length() > 0) {
                    open.setLength(open.length() - 1);
                    compared = open.length() > 0 && open.charAt(open.length() - 1) == '<';
                    if (compared) {
                        open.setLength(open.length() - 1);
                    }
                    closeNots(open);
                    digits = 0;
                } else {
                    return at;
                }
            }
            return wants || open.length() > 0 ? text.length() : -1;
        }

        private static void closeNots(StringBuilder open) {
            while (open.length() > 0 && open.charAt(open.length() - 1) == '!') {
                open.setLength(open.length() - 1);
            }
        }
    }
}
