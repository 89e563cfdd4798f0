import java.util.Arrays;

/**
 * A road race in which not everybody runs all of it, as the document tells it.
 *
 * <p>No call makes an object: every row is made in a constructor and used again,
 * as all calls of a run live in one room.
 */
public final class TrainMile {
    private static final int LOW = -1000000;
    private static final int BEYOND = 1;
    private static final int NONE = 2;
    private static final int STATE = 3;
    private static final int FULL = 4;
    private static final int KIND = 5;

    private static final int LEAST_PIECES = 4;
    private static final int MOST_PIECES = 24;
    private static final int MARKS = MOST_PIECES + 1;
    private static final int MOST_WAYS = 12;
    private static final int MOST_RUNNERS = 12;
    private static final int MOST_GOINGS = 40;
    private static final int MOST_ENTRIES = 8;
    private static final int MOST_BYTES = 60;
    private static final int MOST_OPEN = 5;
    private static final int MOST_BODIES = 40;
    private static final int MOST_NUMBERS = 24;
    private static final int MOST_ODDS = 8;
    private static final int NAMES = 6;

    private static final int SLOWEST = 99;
    private static final int NEVER = 1000000000;

    private static final int GOING = 0;
    private static final int RUN = 1;
    private static final int WALKED = 2;
    private static final int SHORT = 3;
    private static final int RIDDEN = 4;
    private static final int CARRIED = 5;
    private static final int SWAPPED = 6;
    private static final int MISSED = 7;
    private static final int[] KIND_ABOVE = {-1, GOING, RUN, GOING, SHORT, GOING, GOING, RUN};

    private static final int GO = 0;
    private static final int SHOW = 1;
    private static final int WEIGH = 2;
    private static final int TELL = 3;
    private static final int ACTS = 4;

    private static final int PACE_TEXT = 0;
    private static final int ODD_TEXT = 1;

    private final World now = new World();
    private final World kept = new World();
    private final Race racing = new Race(now);
    private final Judge judging = new Judge(now);
    private final Reader reader = new Reader(now.tape);
    private final Voices voices = new Voices();
    private final Sheet[] sheets = {new Sheet(), new Sheet(), new Sheet(), new Sheet()};
    private final int[] findings = new int[KIND + 1];
    private int images;

    public TrainMile() {
    }

    // ---- the road

    public int road(int n) {
        if (!within(n, LEAST_PIECES, MOST_PIECES)) {
            return finding(BEYOND);
        }
        now.layRoad(n);
        return n;
    }

    public int climb(int piece, int v) {
        if (!isPiece(piece) || !within(v, -4, 9)) {
            return finding(BEYOND);
        }
        int was = now.road.climbs[piece];
        now.road.climbs[piece] = v;
        return was;
    }

    public int heat(int v) {
        if (!within(v, 0, 9)) {
            return finding(BEYOND);
        }
        int was = now.road.heat;
        now.road.heat = v;
        return was;
    }

    public int mat(int mark, boolean is) {
        if (!isBetween(mark)) {
            return finding(BEYOND);
        }
        if (now.road.hasMat(mark) == is) {
            return 0;
        }
        now.road.mats ^= 1 << mark;
        return 1;
    }

    public int deaf(int mark, int v) {
        if (!isMark(mark) || !within(v, 0, 9)) {
            return finding(BEYOND);
        }
        int was = now.road.deafness[mark];
        now.road.deafness[mark] = v;
        return was;
    }

    public int way(int ends, int minutes, int first, int each) {
        boolean fits = ends >= 0 && areMarks(ends / 100, ends % 100)
                && within(minutes, 1, 300) && within(each, 0, 99)
                && (each == 0 || within(first, 0, 999));
        if (!fits) {
            return finding(BEYOND);
        }
        if (now.road.ways >= MOST_WAYS) {
            return finding(FULL);
        }
        return now.road.addWay(ends, minutes, first, each);
    }

    public int earliest(int from, int minute, int to, int v, int what) {
        if (!areMarks(from, to) || !within(minute, 0, 2000) || !within(v, 0, 60) || !within(what, 0, 1)) {
            return finding(BEYOND);
        }
        now.road.reach(from, minute, v);
        int there = now.road.soonest(to, 0);
        if (there == NEVER) {
            return finding(NONE);
        }
        return what == 0 ? there : now.road.waysFor(to, there);
    }

    public int fewest(int what) {
        if (!within(what, 0, 1)) {
            return finding(BEYOND);
        }
        int marks = now.road.fewestMats();
        return what == 0 ? Integer.bitCount(marks) : marks;
    }

    // ---- runners, goings

    public int runner(int strength, int begins) {
        if (!within(strength, 1, 30) || !within(begins, 0, 99)) {
            return finding(BEYOND);
        }
        if (now.runners.count >= MOST_RUNNERS) {
            return finding(FULL);
        }
        return now.runners.add(strength, begins);
    }

    public int going(int kind, int runner, int ends, int number) {
        if (!within(kind, GOING, MISSED) || !isRunner(runner) || !endsFit(kind, ends) || !numberFits(kind, number)) {
            return finding(BEYOND);
        }
        if ((kind == SHORT || kind == RIDDEN) && !now.road.leads(number, ends / 100, kind == RIDDEN)) {
            return finding(KIND);
        }
        if (now.goings.count >= MOST_GOINGS) {
            return finding(FULL);
        }
        return now.goings.add(kind, runner, ends, number);
    }

    public int forget(int n) {
        if (!within(n, 0, now.goings.count)) {
            return finding(BEYOND);
        }
        int forgotten = now.goings.count - n;
        now.goings.count = n;
        return forgotten;
    }

    public int as(int going, int kind) {
        if (!isGoing(going) || !within(kind, GOING, MISSED)) {
            return finding(BEYOND);
        }
        if (!isUnder(now.goings.kinds[going], kind)) {
            return finding(KIND);
        }
        return now.goings.numbers[going];
    }

    public int goingIs(int going, int what) {
        if (!isGoing(going) || !within(what, 0, 4)) {
            return finding(BEYOND);
        }
        switch (what) {
            case 0:
                return now.goings.kinds[going];
            case 1:
                return now.goings.runners[going];
            case 2:
                return now.goings.froms[going];
            case 3:
                return now.goings.tos[going];
            default:
                return now.goings.numbers[going];
        }
    }

    public int draw(int v) {
        if (!within(v, 0, 65535)) {
            return finding(BEYOND);
        }
        int was = now.drawn;
        now.drawn = v;
        return was;
    }

    // ---- the race

    public int race() {
        now.forgetRace();
        for (int r = 0; r < now.runners.count; r++) {
            racing.follow(r);
            if (racing.leftRoad) {
                now.offs |= 1 << r;
            }
        }
        int atGoal = 0;
        for (int s = 0; s < now.runners.count; s++) {
            racing.listen(s);
            if (now.minuteAt(s, now.road.pieces) >= 0) {
                atGoal++;
            }
        }
        now.races++;
        return atGoal;
    }

    public int would(int runner, int mark) {
        if (!isRunner(runner) || !isMark(mark)) {
            return finding(BEYOND);
        }
        racing.follow(runner);
        return racing.minuteOf(runner, mark);
    }

    public int heard(int shoe, int mark) {
        if (!isRunner(shoe) || !isMark(mark)) {
            return finding(BEYOND);
        }
        return now.minuteAt(shoe, mark);
    }

    public int off(int runner) {
        if (!isRunner(runner)) {
            return finding(BEYOND);
        }
        return now.isOff(runner) ? 1 : 0;
    }

    public int pace(int runner, int b, int piece, int e, int f) {
        boolean fits = isRunner(runner) && within(b, 0, MOST_PIECES) && isPiece(piece)
                && within(e, 0, SLOWEST) && within(f, 0, SLOWEST);
        if (!fits) {
            return finding(BEYOND);
        }
        return racing.paceOf(now.runners.strengths[runner], b, piece, e, f);
    }

    public int odds(int runner, int m, int minutes, int what) {
        boolean fits = isRunner(runner) && within(m, 1, Math.min(MOST_ODDS, now.road.pieces))
                && minutes >= 0 && within(what, 0, 1);
        if (!fits) {
            return finding(BEYOND);
        }
        return racing.countRows(now.runners.strengths[runner], m, minutes, what == 1);
    }

    // ---- texts

    public int feed(long word, int n) {
        if (!within(n, 1, 8)) {
            return finding(BEYOND);
        }
        if (now.fed + n > MOST_BYTES) {
            return finding(FULL);
        }
        now.addBytes(word, n);
        return now.fed;
    }

    public int text(int use) {
        if (!within(use, PACE_TEXT, ODD_TEXT)) {
            return finding(BEYOND);
        }
        reader.read(now.fed);
        now.fed = 0;
        if (reader.fault >= 0) {
            return -10 - reader.fault;
        }
        now.texts[use].takeCode(reader.code, reader.length);
        return 1;
    }

    // ---- what times tell

    public int least(int v) {
        if (!within(v, 1, 30)) {
            return finding(BEYOND);
        }
        int was = now.leastMinutes;
        now.leastMinutes = v;
        return was;
    }

    public int gap(int shoe, int i, int what) {
        if (!isRunner(shoe) || !within(what, 0, 4)) {
            return finding(BEYOND);
        }
        if (!judging.findGap(shoe, i)) {
            return finding(NONE);
        }
        switch (what) {
            case 0:
                return judging.gapFrom;
            case 1:
                return judging.gapTo;
            case 2:
                return judging.gapMinutes;
            case 3:
                return judging.gapOnFoot() ? 1 : 0;
            default:
                return judging.gapByWays(shoe) ? 1 : 0;
        }
    }

    public int company(int e, int what) {
        if (!within(e, 0, 30) || !within(what, 0, 1)) {
            return finding(BEYOND);
        }
        int pairs = 0;
        int shoes = 0;
        for (int s = 0; s < now.runners.count; s++) {
            for (int t = s + 1; t < now.runners.count; t++) {
                if (judging.together(s, t, e)) {
                    pairs++;
                    shoes |= 1 << s | 1 << t;
                }
            }
        }
        return what == 0 ? pairs : shoes;
    }

    public int misses(int mark, int what) {
        if (!isBetween(mark) || !within(what, 0, 1)) {
            return finding(BEYOND);
        }
        int passed = 0;
        int unheard = 0;
        for (int s = 0; s < now.runners.count; s++) {
            if (judging.passed(s, mark)) {
                passed++;
                if (now.minuteAt(s, mark) < 0) {
                    unheard++;
                }
            }
        }
        return what == 0 ? unheard : passed;
    }

    public long parts(int sheet, int what) {
        if (!isSheet(sheet) || !within(what, 0, 2)) {
            return finding(BEYOND);
        }
        Sheet row = sheets[sheet];
        if (row.bits == 0) {
            return finding(NONE);
        }
        if (row.size < 2) {
            return finding(STATE);
        }
        if (what == 2) {
            return row.spread(0, row.size);
        }
        int at = row.breakPlace();
        return what == 0 ? at : row.brokenSum(at);
    }

    public int odd(int shoe) {
        if (!isRunner(shoe)) {
            return finding(BEYOND);
        }
        return judging.oddness(shoe);
    }

    public int judge(int what) {
        if (!within(what, 0, 3)) {
            return finding(BEYOND);
        }
        boolean wantsOdd = what == 0 || what == 1;
        boolean wantsOff = what == 0 || what == 2;
        int count = 0;
        for (int s = 0; s < now.runners.count; s++) {
            if ((judging.oddness(s) != 0) == wantsOdd && now.isOff(s) == wantsOff) {
                count++;
            }
        }
        return count;
    }

    public int place(int shoe, int struck) {
        if (!isRunner(shoe) || !isSet(struck)) {
            return finding(BEYOND);
        }
        if (!judging.hasPlace(shoe, struck)) {
            return finding(STATE);
        }
        return judging.placeOf(shoe, struck);
    }

    public int up(int struck) {
        if (!isSet(struck)) {
            return finding(BEYOND);
        }
        int count = 0;
        for (int s = 0; s < now.runners.count; s++) {
            if (judging.hasPlace(s, struck) && judging.placeOf(s, struck) < judging.placeOf(s, 0)) {
                count++;
            }
        }
        return count;
    }

    // ---- races elsewhere

    public int entry(int runner, int day, int town, int hours) {
        boolean fits = isRunner(runner) && within(day, 0, 365) && within(town, 0, 30)
                && hours >= 0 && hours % 100 <= 24 && hours / 100 < hours % 100;
        if (!fits) {
            return finding(BEYOND);
        }
        if (now.runners.entries[runner] >= MOST_ENTRIES) {
            return finding(FULL);
        }
        return now.runners.enter(runner, day, town, hours);
    }

    public int same(int runner, int what) {
        if (!isRunner(runner) || !within(what, 0, 1)) {
            return finding(BEYOND);
        }
        return what == 0 ? now.runners.clashesOf(runner) : now.runners.mostWithoutClash(runner);
    }

    // ---- voices, sheets, images

    public int voice(int going, int act, int x) {
        if (!isGoing(going) || !within(act, GO, TELL)) {
            return finding(BEYOND);
        }
        return voices.speak(now.goings, going, act, x);
    }

    public int trace(int i) {
        if (i < 0 || i >= voices.count) {
            return finding(NONE);
        }
        return voices.bodies[i];
    }

    public int sheet(int sheet, int bits, int n) {
        if (!isSheet(sheet) || bits != 0 && bits != 8 && bits != 16 && bits != 32) {
            return finding(BEYOND);
        }
        if (bits != 0 && n < 0) {
            return finding(STATE);
        }
        if (bits != 0 && n > MOST_NUMBERS) {
            return finding(BEYOND);
        }
        sheets[sheet].begin(bits, n);
        return 1;
    }

    public int put(int sheet, int i, int v) {
        if (!isSheet(sheet)) {
            return finding(BEYOND);
        }
        if (sheets[sheet].bits == 0) {
            return finding(NONE);
        }
        if (i < 0 || i >= sheets[sheet].size) {
            return finding(BEYOND);
        }
        sheets[sheet].set(i, v);
        return 1;
    }

    public int move(int sheet, int i, int other, int j, int n) {
        if (!isSheet(sheet) || !isSheet(other)) {
            return finding(BEYOND);
        }
        if (sheets[sheet].bits == 0 || sheets[other].bits == 0) {
            return finding(NONE);
        }
        if (sheets[sheet].bits != sheets[other].bits) {
            return finding(KIND);
        }
        if (!sheets[sheet].holds(i, n) || !sheets[other].holds(j, n)) {
            return finding(BEYOND);
        }
        System.arraycopy(sheets[sheet].numbers, i, sheets[other].numbers, j, n);
        return n;
    }

    public int write(int shoe, int sheet) {
        if (!isRunner(shoe) || !isSheet(sheet)) {
            return finding(BEYOND);
        }
        Sheet row = sheets[sheet];
        if (row.bits == 0) {
            return finding(NONE);
        }
        int written = 0;
        for (int i = 0; i < row.size && judging.findGap(shoe, i); i++) {
            row.set(i, judging.gapPace());
            written++;
        }
        return written;
    }

    public int image() {
        kept.takeAll(now);
        images++;
        return images;
    }

    public int restore() {
        if (images == 0) {
            return finding(NONE);
        }
        now.takeAll(kept);
        return now.road.pieces;
    }

    public int told(int what) {
        switch (what) {
            case 0:
                return now.road.pieces;
            case 1:
                return now.road.ways;
            case 2:
                return now.runners.count;
            case 3:
                return now.goings.count;
            case 4:
                return now.drawn;
            case 5:
                return now.fed;
            case 6:
                return Integer.bitCount(now.road.mats);
            case 7:
                return now.races;
            case 8:
                return now.leastMinutes;
            case 9:
                return now.runners.allEntries();
            case 10:
                return voices.count;
            default:
                return finding(BEYOND);
        }
    }

    public int found(int k) {
        if (!within(k, BEYOND, KIND)) {
            return finding(BEYOND);
        }
        return findings[k];
    }

    // ---- what the calls ask of their arguments

    // Findings are counted here and not by what a call answers: a voice or a text may
    // answer the same number without finding anything.
    private int finding(int k) {
        findings[k]++;
        return LOW - k;
    }

    private static boolean within(int v, int lowest, int highest) {
        return v >= lowest && v <= highest;
    }

    private boolean isPiece(int piece) {
        return within(piece, 0, now.road.pieces - 1);
    }

    private boolean isMark(int mark) {
        return within(mark, 0, now.road.pieces);
    }

    private boolean isBetween(int mark) {
        return within(mark, 1, now.road.pieces - 1);
    }

    private boolean areMarks(int from, int to) {
        return isMark(from) && isMark(to) && to > from;
    }

    private boolean isRunner(int runner) {
        return within(runner, 0, now.runners.count - 1);
    }

    private boolean isGoing(int going) {
        return within(going, 0, now.goings.count - 1);
    }

    private boolean isSheet(int sheet) {
        return within(sheet, 0, sheets.length - 1);
    }

    private boolean isSet(int struck) {
        return within(struck, 0, (1 << now.runners.count) - 1);
    }

    private boolean endsFit(int kind, int ends) {
        if (ends < 0) {
            return false;
        }
        int from = ends / 100;
        if (kind == RUN || kind == WALKED || kind == SWAPPED) {
            return areMarks(from, ends % 100);
        }
        return kind == CARRIED || kind == MISSED ? isMark(from) : isPiece(from);
    }

    private boolean numberFits(int kind, int number) {
        switch (kind) {
            case GOING:
                return within(number, 0, 99);
            case RUN:
            case WALKED:
                return within(number, 0, 20);
            case SHORT:
            case RIDDEN:
                return within(number, 0, now.road.ways - 1);
            case CARRIED:
            case SWAPPED:
                return isRunner(number);
            default:
                return true;
        }
    }

    private static boolean isUnder(int kind, int above) {
        int k = kind;
        for (int i = 0; i < KIND_ABOVE.length && k >= 0; i++) {
            if (k == above) {
                return true;
            }
            k = KIND_ABOVE[k];
        }
        return false;
    }

    /** All that an image keeps. */
    private static final class World {
        final Road road = new Road();
        final Runners runners = new Runners();
        final Goings goings = new Goings();
        final Text[] texts = {new Text(), new Text()};
        final byte[] tape = new byte[MOST_BYTES];
        int fed;
        final int[] minutes = new int[MOST_RUNNERS * MARKS];
        int offs;
        int races;
        int drawn = 1;
        int leastMinutes = 3;

        World() {
            Arrays.fill(minutes, -1);
        }

        void layRoad(int n) {
            road.lay(n);
            goings.count = 0;
            forgetRace();
        }

        void forgetRace() {
            Arrays.fill(minutes, -1);
            offs = 0;
        }

        int minuteAt(int shoe, int mark) {
            return minutes[shoe * MARKS + mark];
        }

        boolean isOff(int r) {
            return (offs >> r & 1) == 1;
        }

        int drawNext() {
            drawn = drawn * 25173 + 13849 & 65535;
            return drawn;
        }

        void addBytes(long word, int n) {
            for (int i = 0; i < n; i++) {
                tape[fed + i] = (byte) (word >> 8 * i);
            }
            fed += n;
        }

        void takeAll(World other) {
            road.takeAll(other.road);
            runners.takeAll(other.runners);
            goings.takeAll(other.goings);
            for (int use = 0; use < texts.length; use++) {
                texts[use].takeCode(other.texts[use].code, other.texts[use].length);
            }
            copy(other.minutes, minutes);
            System.arraycopy(other.tape, 0, tape, 0, MOST_BYTES);
            fed = other.fed;
            offs = other.offs;
            races = other.races;
            drawn = other.drawn;
            leastMinutes = other.leastMinutes;
        }
    }

    private static void copy(int[] from, int[] to) {
        System.arraycopy(from, 0, to, 0, Math.min(from.length, to.length));
    }

    /** The road with its mats, and the ways beside it. */
    private static final class Road {
        int pieces;
        int heat;
        int mats;
        int ways;
        final int[] climbs = new int[MOST_PIECES];
        final int[] deafness = new int[MARKS];
        final int[] wayFrom = new int[MOST_WAYS];
        final int[] wayTo = new int[MOST_WAYS];
        final int[] wayMinutes = new int[MOST_WAYS];
        final int[] wayFirst = new int[MOST_WAYS];
        final int[] wayEach = new int[MOST_WAYS];
        // By how many ways were gone, then by mark; and by mark how many mats are needed behind it.
        private final int[] reached = new int[(MOST_WAYS + 1) * MARKS];
        private final int[] needed = new int[MARKS];

        Road() {
            lay(LEAST_PIECES);
        }

        void lay(int n) {
            pieces = n;
            mats = 1 | 1 << n;
            ways = 0;
            Arrays.fill(climbs, 0);
        }

        boolean hasMat(int mark) {
            return (mats >> mark & 1) == 1;
        }

        int addWay(int ends, int minutes, int first, int each) {
            wayFrom[ways] = ends / 100;
            wayTo[ways] = ends % 100;
            wayMinutes[ways] = minutes;
            wayFirst[ways] = first;
            wayEach[ways] = each;
            ways++;
            return ways - 1;
        }

        boolean leads(int way, int from, boolean train) {
            return wayFrom[way] == from && wayEach[way] != 0 == train;
        }

        int arrival(int way, int minute) {
            return leaving(way, minute) + wayMinutes[way];
        }

        private int leaving(int way, int minute) {
            int first = wayFirst[way];
            int each = wayEach[way];
            if (each == 0) {
                return minute;
            }
            if (minute <= first) {
                return first;
            }
            return first + (minute - first + each - 1) / each * each;
        }

        // To leave later never helps, so the soonest minute by each number of ways is enough.
        void reach(int from, int minute, int footMinutes) {
            Arrays.fill(reached, NEVER);
            reached[from] = minute;
            for (int mark = from; mark < pieces; mark++) {
                for (int gone = 0; gone <= ways; gone++) {
                    int then = reached[gone * MARKS + mark];
                    if (then == NEVER) {
                        continue;
                    }
                    if (footMinutes > 0) {
                        arrive(gone, mark + 1, then + footMinutes);
                    }
                    goOnByWays(gone, mark, then);
                }
            }
        }

        private void goOnByWays(int gone, int mark, int minute) {
            for (int way = 0; way < ways && gone < ways; way++) {
                if (wayFrom[way] == mark) {
                    arrive(gone + 1, wayTo[way], arrival(way, minute));
                }
            }
        }

        private void arrive(int gone, int mark, int minute) {
            int i = gone * MARKS + mark;
            reached[i] = Math.min(reached[i], minute);
        }

        int soonest(int to, int waysAtLeast) {
            int soonest = NEVER;
            for (int gone = waysAtLeast; gone <= ways; gone++) {
                soonest = Math.min(soonest, reached[gone * MARKS + to]);
            }
            return soonest;
        }

        int waysFor(int to, int minute) {
            int gone = 0;
            while (gone < ways && reached[gone * MARKS + to] != minute) {
                gone++;
            }
            return gone;
        }

        // Behind the latest mat only ways that begin there or later are still open:
        // those ahead are done with, and those across it have it between.
        int fewestMats() {
            for (int latest = pieces; latest >= 0; latest--) {
                int end = openEnd(latest);
                needed[latest] = 0;
                if (end <= pieces) {
                    needed[latest] = 1 + needed[bestNext(latest, end)];
                }
            }
            int marks = 0;
            int latest = 0;
            for (int i = 0; i < MARKS && needed[latest] > 0; i++) {
                latest = bestNext(latest, openEnd(latest));
                marks |= 1 << latest;
            }
            return marks;
        }

        // The first end of a way that begins at a mark or behind it and that a mat can be between.
        private int openEnd(int from) {
            int end = pieces + 1;
            for (int way = 0; way < ways; way++) {
                if (wayFrom[way] >= from && wayTo[way] - wayFrom[way] >= 2) {
                    end = Math.min(end, wayTo[way]);
                }
            }
            return end;
        }

        private int bestNext(int latest, int end) {
            int best = latest + 1;
            for (int mark = latest + 2; mark < end; mark++) {
                if (needed[mark] < needed[best]) {
                    best = mark;
                }
            }
            return best;
        }

        void takeAll(Road other) {
            pieces = other.pieces;
            heat = other.heat;
            mats = other.mats;
            ways = other.ways;
            copy(other.climbs, climbs);
            copy(other.deafness, deafness);
            copy(other.wayFrom, wayFrom);
            copy(other.wayTo, wayTo);
            copy(other.wayMinutes, wayMinutes);
            copy(other.wayFirst, wayFirst);
            copy(other.wayEach, wayEach);
        }
    }

    /** The runners, and their entries for races elsewhere. */
    private static final class Runners {
        int count;
        final int[] strengths = new int[MOST_RUNNERS];
        final int[] begins = new int[MOST_RUNNERS];
        final int[] entries = new int[MOST_RUNNERS];
        private final int[] days = new int[MOST_RUNNERS * MOST_ENTRIES];
        private final int[] towns = new int[MOST_RUNNERS * MOST_ENTRIES];
        private final int[] hours = new int[MOST_RUNNERS * MOST_ENTRIES];
        // Of the runner that is asked for: by entry the others that clash with it, as bits.
        private final int[] rivals = new int[MOST_ENTRIES];

        int add(int strength, int begin) {
            strengths[count] = strength;
            begins[count] = begin;
            entries[count] = 0;
            count++;
            return count - 1;
        }

        int enter(int r, int day, int town, int fromTo) {
            int i = r * MOST_ENTRIES + entries[r];
            days[i] = day;
            towns[i] = town;
            hours[i] = fromTo;
            entries[r]++;
            return entries[r];
        }

        int allEntries() {
            int all = 0;
            for (int r = 0; r < count; r++) {
                all += entries[r];
            }
            return all;
        }

        int clashesOf(int r) {
            findRivals(r);
            int clashes = 0;
            for (int i = 0; i < entries[r]; i++) {
                clashes += Integer.bitCount(rivals[i] >> i);
            }
            return clashes;
        }

        int mostWithoutClash(int r) {
            findRivals(r);
            int most = 0;
            for (int chosen = 0; chosen < 1 << entries[r]; chosen++) {
                if (Integer.bitCount(chosen) > most && isClashFree(chosen, entries[r])) {
                    most = Integer.bitCount(chosen);
                }
            }
            return most;
        }

        private boolean isClashFree(int chosen, int size) {
            for (int i = 0; i < size; i++) {
                if ((chosen >> i & 1) == 1 && (rivals[i] & chosen) != 0) {
                    return false;
                }
            }
            return true;
        }

        private void findRivals(int r) {
            for (int i = 0; i < entries[r]; i++) {
                rivals[i] = 0;
                for (int j = 0; j < entries[r]; j++) {
                    if (j != i && clash(r * MOST_ENTRIES + i, r * MOST_ENTRIES + j)) {
                        rivals[i] |= 1 << j;
                    }
                }
            }
        }

        private boolean clash(int i, int j) {
            int travel = Math.abs(towns[i] - towns[j]) / 3;
            return days[i] == days[j]
                    && hours[i] % 100 + travel > hours[j] / 100
                    && hours[j] % 100 + travel > hours[i] / 100;
        }

        void takeAll(Runners other) {
            count = other.count;
            copy(other.strengths, strengths);
            copy(other.begins, begins);
            copy(other.entries, entries);
            copy(other.days, days);
            copy(other.towns, towns);
            copy(other.hours, hours);
        }
    }

    /** The goings, as they were told. */
    private static final class Goings {
        int count;
        final int[] kinds = new int[MOST_GOINGS];
        final int[] runners = new int[MOST_GOINGS];
        final int[] froms = new int[MOST_GOINGS];
        final int[] tos = new int[MOST_GOINGS];
        final int[] numbers = new int[MOST_GOINGS];

        int add(int kind, int r, int ends, int number) {
            kinds[count] = kind;
            runners[count] = r;
            froms[count] = ends / 100;
            tos[count] = ends % 100;
            numbers[count] = number;
            count++;
            return count - 1;
        }

        int latestStep(int r, int mark) {
            for (int g = count - 1; g >= 0; g--) {
                if (runners[g] == r && froms[g] == mark && kinds[g] != CARRIED && kinds[g] != MISSED) {
                    return g;
                }
            }
            return -1;
        }

        boolean isMissed(int r, int mark) {
            for (int g = 0; g < count; g++) {
                if (kinds[g] == MISSED && runners[g] == r && froms[g] == mark) {
                    return true;
                }
            }
            return false;
        }

        int carrierOf(int shoe, int mark) {
            int carrier = shoe;
            int since = 0;
            for (int g = 0; g < count; g++) {
                if (kinds[g] == CARRIED && runners[g] == shoe && within(froms[g], since, mark)) {
                    since = froms[g];
                    carrier = numbers[g];
                }
            }
            return carrier;
        }

        void takeAll(Goings other) {
            count = other.count;
            copy(other.kinds, kinds);
            copy(other.runners, runners);
            copy(other.froms, froms);
            copy(other.tos, tos);
            copy(other.numbers, numbers);
        }
    }

    /**
     * A text as a row of codes, operands ahead of their operator: a number is itself,
     * name a is -1, b is -2, and so on, an operator is its sign's number below 0.
     */
    private static final class Text {
        final int[] code = new int[MOST_BYTES];
        int length;
        private final int[] stack = new int[MOST_BYTES];

        void takeCode(int[] other, int size) {
            copy(other, code);
            length = size;
        }

        int value(int[] names) {
            int top = 0;
            for (int i = 0; i < length; i++) {
                int c = code[i];
                if (c >= 0) {
                    stack[top] = c;
                    top++;
                } else if (c >= -NAMES) {
                    stack[top] = names[-1 - c];
                    top++;
                } else if (c == -'!' && top >= 1) {
                    stack[top - 1] = stack[top - 1] == 0 ? 1 : 0;
                } else if (top >= 2) {
                    top--;
                    stack[top - 1] = join(-c, stack[top - 1], stack[top]);
                }
            }
            return stack[0];
        }

        private static int join(int sign, int left, int right) {
            switch (sign) {
                case '|':
                    return left != 0 || right != 0 ? 1 : 0;
                case '&':
                    return left != 0 && right != 0 ? 1 : 0;
                case '<':
                    return left < right ? 1 : 0;
                case '=':
                    return left == right ? 1 : 0;
                case '>':
                    return left > right ? 1 : 0;
                case '+':
                    return left + right;
                case '-':
                    return left - right;
                case '*':
                    return left * right;
                default:
                    return right == 0 ? 0 : left / right;
            }
        }
    }

    /** Reads a tape into a text's codes, or finds its fault. */
    private static final class Reader {
        private static final int ANY = 0;
        private static final int ALL = 1;
        private static final int COMPARED = 2;
        private static final int SUM = 3;
        private static final int PRODUCT = 4;

        final int[] code = new int[MOST_BYTES];
        int length;
        int fault;
        private final byte[] tape;
        private int end;
        private int at;

        Reader(byte[] bytes) {
            tape = bytes;
        }

        void read(int count) {
            end = Math.min(count, tape.length);
            at = 0;
            length = 0;
            fault = -1;
            readJoined(ANY, 0);
            if (at < end) {
                failHere();
            }
        }

        // A fault stops all reading: behind it no sign is seen any more.
        private int sign() {
            return fault < 0 && at < end ? tape[at] & 255 : -1;
        }

        private void failHere() {
            if (fault < 0) {
                fault = at;
            }
        }

        private void emit(int c) {
            if (length < MOST_BYTES) {
                code[length] = c;
                length++;
            }
        }

        private static int levelOf(int sign) {
            switch (sign) {
                case '|':
                    return ANY;
                case '&':
                    return ALL;
                case '<':
                case '=':
                case '>':
                    return COMPARED;
                case '+':
                case '-':
                    return SUM;
                case '*':
                case '/':
                    return PRODUCT;
                default:
                    return -1;
            }
        }

        // Reads what is joined by operators of a level or of those that bind more. What stands right
        // of one is read from the next level on, so that those of one level are joined from the left.
        private void readJoined(int lowest, int open) {
            readSingle(open);
            int highest = PRODUCT;
            for (int i = 0; i < MOST_BYTES && within(levelOf(sign()), lowest, highest); i++) {
                int operator = sign();
                int level = levelOf(operator);
                at++;
                readJoined(level + 1, open);
                emit(-operator);
                // What was compared isn't compared once more.
                highest = level == COMPARED ? ALL : level;
            }
        }

        private void readSingle(int open) {
            int sign = sign();
            if (within(sign, '0', '9')) {
                readNumber();
            } else if (within(sign, 'a', 'f')) {
                at++;
                emit('a' - 1 - sign);
            } else if (sign == '!' && open < MOST_OPEN) {
                at++;
                readSingle(open + 1);
                emit(-'!');
            } else if (sign == '(' && open < MOST_OPEN) {
                at++;
                readJoined(ANY, open + 1);
                close();
            } else {
                failHere();
            }
        }

        private void close() {
            if (sign() == ')') {
                at++;
            } else {
                failHere();
            }
        }

        private void readNumber() {
            int number = 0;
            for (int i = 0; i < 4 && within(sign(), '0', '9'); i++) {
                number = number * 10 + sign() - '0';
                at++;
            }
            emit(number);
        }
    }

    /** One that runs, and what it has run. */
    private static final class Body {
        int strength;
        int ran;
        int firstPace;
        int latestPace;

        void begin(int s) {
            strength = s;
            ran = 0;
            firstPace = 0;
            latestPace = 0;
        }

        void ranAt(int minutes) {
            if (ran == 0) {
                firstPace = minutes;
            }
            latestPace = minutes;
            ran++;
        }
    }

    /** The race as it would be run now, runner by runner, and how its mats hear it. */
    private static final class Race {
        boolean leftRoad;
        private final World world;
        private final int[] minutes = new int[MOST_RUNNERS * MARKS];
        private final Body own = new Body();
        private final Body other = new Body();
        private final int[] names = new int[NAMES];
        private int row;
        private int mark;
        private int minute;
        // For odds: by piece and the pace ahead what the law tells, 0 while it wasn't asked.
        private final int[] known = new int[MOST_ODDS * (SLOWEST + 2)];
        private int oddsStrength;
        private int oddsPieces;
        private boolean oddsJust;

        Race(World w) {
            world = w;
        }

        int minuteOf(int r, int m) {
            return minutes[r * MARKS + m];
        }

        int paceOf(int strength, int ran, int piece, int first, int latest) {
            Text law = world.texts[PACE_TEXT];
            int climb = world.road.climbs[piece];
            int told = strength + climb / 2 + ran / 6;
            if (law.length > 0) {
                names[0] = strength;
                names[1] = ran;
                names[2] = climb;
                names[3] = world.road.heat;
                names[4] = first;
                names[5] = latest;
                told = law.value(names);
            }
            return Math.max(1, Math.min(SLOWEST, told));
        }

        void follow(int r) {
            row = r * MARKS;
            for (int m = 0; m < MARKS; m++) {
                minutes[row + m] = -1;
            }
            own.begin(world.runners.strengths[r]);
            leftRoad = false;
            mark = 0;
            minute = world.runners.begins[r];
            minutes[row] = minute;
            for (int i = 0; i < MARKS && mark < world.road.pieces; i++) {
                int g = world.goings.latestStep(r, mark);
                if (g < 0) {
                    runUpTo(mark + 1, own, 0, 1);
                } else {
                    goAsTold(world.goings.kinds[g], world.goings.tos[g], world.goings.numbers[g]);
                }
            }
        }

        private void goAsTold(int kind, int to, int number) {
            switch (kind) {
                case GOING:
                    minute += number;
                    runUpTo(mark + 1, own, 0, 1);
                    break;
                case RUN:
                    runUpTo(to, own, number, 1);
                    break;
                case WALKED:
                    runUpTo(to, own, number, 2);
                    break;
                case SWAPPED:
                    leftRoad = true;
                    other.begin(world.runners.strengths[number]);
                    runUpTo(to, other, 0, 1);
                    break;
                default:
                    leftRoad = true;
                    minute = world.road.arrival(number, minute);
                    mark = world.road.wayTo[number];
                    minutes[row + mark] = minute;
                    break;
            }
        }

        private void runUpTo(int to, Body body, int more, int times) {
            for (int piece = mark; piece < to; piece++) {
                int took = paceOf(body.strength, body.ran, piece, body.firstPace, body.latestPace);
                body.ranAt(took);
                minute += (took + more) * times;
                minutes[row + piece + 1] = minute;
            }
            mark = to;
        }

        void listen(int shoe) {
            for (int m = 0; m <= world.road.pieces; m++) {
                int carrier = world.goings.carrierOf(shoe, m);
                if (carrier != shoe) {
                    world.offs |= 1 << shoe;
                }
                int then = minuteOf(carrier, m);
                if (world.road.hasMat(m) && then >= 0 && matHears(m) && !world.goings.isMissed(carrier, m)) {
                    world.minutes[shoe * MARKS + m] = then;
                }
            }
        }

        private boolean matHears(int m) {
            return m == 0 || world.drawNext() % 10 >= world.road.deafness[m];
        }

        int countRows(int strength, int pieces, int most, boolean just) {
            oddsStrength = strength;
            oddsPieces = pieces;
            oddsJust = just;
            return rowsFrom(0, 0, 0, most);
        }

        // Two of the four draws are alike, so three are followed and the middle one counts twice.
        private int rowsFrom(int piece, int first, int latest, int left) {
            if (left < oddsPieces - piece) {
                return 0;
            }
            if (piece >= oddsPieces) {
                return oddsJust && left > 0 ? 0 : 1;
            }
            int pace = knownPace(piece, first, latest);
            int rows = 0;
            for (int d = -1; d <= 1; d++) {
                int took = Math.max(1, pace + d);
                if (piece == 0) {
                    Arrays.fill(known, 0);
                }
                int rest = rowsFrom(piece + 1, piece == 0 ? took : first, took, left - took);
                rows += d == 0 ? 2 * rest : rest;
            }
            return rows;
        }

        private int knownPace(int piece, int first, int latest) {
            int i = piece * (SLOWEST + 2) + latest;
            if (piece == 0 || known[i] == 0) {
                known[i] = paceOf(oddsStrength, piece, piece, first, latest);
            }
            return known[i];
        }
    }

    /** What the minutes tell at which shoes were heard. */
    private static final class Judge {
        int gapFrom;
        int gapTo;
        int gapMinutes;
        private final World world;
        private final int[] names = new int[NAMES];

        Judge(World w) {
            world = w;
        }

        private int nextHeard(int shoe, int mark) {
            for (int m = mark; m <= world.road.pieces; m++) {
                if (world.minuteAt(shoe, m) >= 0) {
                    return m;
                }
            }
            return MARKS;
        }

        boolean findGap(int shoe, int i) {
            gapFrom = nextHeard(shoe, 0);
            gapTo = nextHeard(shoe, gapFrom + 1);
            for (int k = 0; k < i && gapTo < MARKS; k++) {
                gapFrom = gapTo;
                gapTo = nextHeard(shoe, gapFrom + 1);
            }
            if (i < 0 || gapTo >= MARKS) {
                return false;
            }
            gapMinutes = world.minuteAt(shoe, gapTo) - world.minuteAt(shoe, gapFrom);
            return true;
        }

        boolean gapOnFoot() {
            return gapMinutes >= world.leastMinutes * (gapTo - gapFrom);
        }

        int gapPace() {
            int pieces = gapTo - gapFrom;
            return pieces < 1 ? 0 : gapMinutes / pieces;
        }

        boolean gapByWays(int shoe) {
            world.road.reach(gapFrom, world.minuteAt(shoe, gapFrom), world.leastMinutes);
            return world.road.soonest(gapTo, 1) <= world.minuteAt(shoe, gapTo);
        }

        boolean together(int s, int t, int apart) {
            int both = 0;
            for (int m = 0; m <= world.road.pieces; m++) {
                int one = world.minuteAt(s, m);
                int two = world.minuteAt(t, m);
                if (one >= 0 && two >= 0) {
                    both++;
                    if (Math.abs(one - two) > apart) {
                        return false;
                    }
                }
            }
            return both >= 2;
        }

        boolean passed(int shoe, int mark) {
            return nextHeard(shoe, 0) < mark && nextHeard(shoe, mark + 1) < MARKS;
        }

        int oddness(int shoe) {
            Text text = world.texts[ODD_TEXT];
            int goal = world.road.pieces;
            int first = minutesBetween(shoe, 0, goal / 2);
            int second = minutesBetween(shoe, goal / 2, goal);
            if (text.length == 0) {
                return second != -1 && first > second ? 1 : 0;
            }
            names[0] = first;
            names[1] = second;
            names[2] = deafMats(shoe);
            names[3] = minutesBetween(shoe, 0, goal);
            names[4] = companions(shoe);
            names[5] = world.runners.strengths[shoe];
            return text.value(names);
        }

        private int minutesBetween(int shoe, int from, int to) {
            int one = world.minuteAt(shoe, from);
            int two = world.minuteAt(shoe, to);
            return one < 0 || two < 0 ? -1 : two - one;
        }

        private int deafMats(int shoe) {
            int count = 0;
            for (int m = 0; m <= world.road.pieces; m++) {
                if (world.road.hasMat(m) && world.minuteAt(shoe, m) < 0) {
                    count++;
                }
            }
            return count;
        }

        private int companions(int shoe) {
            int count = 0;
            for (int t = 0; t < world.runners.count; t++) {
                if (t != shoe && together(shoe, t, 1)) {
                    count++;
                }
            }
            return count;
        }

        boolean hasPlace(int shoe, int struck) {
            return (struck >> shoe & 1) == 0 && world.minuteAt(shoe, world.road.pieces) >= 0;
        }

        int placeOf(int shoe, int struck) {
            int better = 0;
            for (int t = 0; t < world.runners.count; t++) {
                if (hasPlace(t, struck) && minutesInAll(t) < minutesInAll(shoe)) {
                    better++;
                }
            }
            return 1 + better;
        }

        private int minutesInAll(int shoe) {
            return world.minuteAt(shoe, world.road.pieces) - Math.max(0, world.minuteAt(shoe, 0));
        }
    }

    /** A row of numbers of so many bits; of 0 bits while it is missing. */
    private static final class Sheet {
        int bits;
        int size;
        final int[] numbers = new int[MOST_NUMBERS];
        private final int[] sorted = new int[MOST_NUMBERS];

        void begin(int b, int n) {
            bits = b;
            size = b == 0 ? 0 : n;
            Arrays.fill(numbers, 0);
        }

        void set(int i, int v) {
            numbers[i] = bits == 8 ? (byte) v : bits == 16 ? (short) v : v;
        }

        boolean holds(int i, int n) {
            return i >= 0 && n >= 0 && (long) i + n <= size;
        }

        int breakPlace() {
            int best = 1;
            for (int k = 2; k < size; k++) {
                if (brokenSum(k) < brokenSum(best)) {
                    best = k;
                }
            }
            return best;
        }

        long brokenSum(int k) {
            return spread(0, k) + spread(k, size);
        }

        long spread(int from, int to) {
            int n = to - from;
            sortPart(from, n);
            long sum = 0;
            for (int i = 0; i < n; i++) {
                sum += Math.abs((long) sorted[i] - sorted[(n - 1) / 2]);
            }
            return sum;
        }

        private void sortPart(int from, int n) {
            for (int i = 0; i < n; i++) {
                int v = numbers[from + i];
                int k = i;
                while (k > 0 && sorted[k - 1] > v) {
                    sorted[k] = sorted[k - 1];
                    k--;
                }
                sorted[k] = v;
            }
        }
    }

    /** What goings say, each by the bodies of its kind and of those above, and the trace of these. */
    private static final class Voices {
        // By kind, then by act: the body's number, 0 where the kind above is asked.
        private static final int[] BODIES = {
            10, 11, 12, 13,
            0, 0, 20, 0,
            30, 0, 31, 0,
            0, 40, 0, 0,
            51, 0, 0, 50,
            0, 0, 60, 0,
            0, 0, 0, 70,
            0, 80, 81, 0,
        };

        final int[] bodies = new int[MOST_BODIES];
        int count;
        private int kind;
        private int r;
        private int m;

        int speak(Goings goings, int going, int act, int x) {
            count = 0;
            kind = goings.kinds[going];
            r = goings.runners[going];
            m = goings.froms[going];
            return call(kind, act, x, 0);
        }

        private int call(int from, int act, int x, int depth) {
            int k = from;
            for (int i = 0; i < MISSED && k > GOING && BODIES[k * ACTS + act] == 0; i++) {
                k = KIND_ABOVE[k];
            }
            if (k < GOING || depth >= MOST_BODIES) {
                return 0;
            }
            int body = BODIES[k * ACTS + act];
            if (count < MOST_BODIES) {
                bodies[count] = body;
                count++;
            }
            return k == GOING ? sayGoing(body, x, depth + 1) : sayUnder(body, KIND_ABOVE[k], x, depth + 1);
        }

        private int sayGoing(int body, int x, int depth) {
            switch (body) {
                case 10:
                    return x + m;
                case 11:
                    return call(kind, GO, x, depth) * 2;
                case 12:
                    return x - r;
                default:
                    return call(kind, SHOW, x, depth) ^ call(kind, WEIGH, x, depth);
            }
        }

        private int sayUnder(int body, int above, int x, int depth) {
            switch (body) {
                case 20:
                    return call(above, WEIGH, x, depth) + m;
                case 30:
                    return call(above, GO, x + 1, depth);
                case 31:
                    return call(above, WEIGH, x, depth) * 2;
                case 40:
                    return call(above, SHOW, x, depth) - call(kind, WEIGH, x, depth);
                case 50:
                    return call(above, TELL, x, depth) + 1;
                case 51:
                    return call(above, GO, x - r, depth);
                case 60:
                    return call(above, WEIGH, x, depth) ^ call(kind, GO, x, depth);
                case 70:
                    return call(kind, WEIGH, x, depth) - call(above, TELL, x, depth);
                case 80:
                    return call(above, SHOW, x + m, depth);
                default:
                    return call(above, WEIGH, x - 1, depth);
            }
        }
    }
}
