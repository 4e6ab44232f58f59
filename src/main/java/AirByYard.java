/** Air over an estuary, let to birds in strips by height and hour; ../shared/DOC.md says what each call does. */
public final class AirByYard {
    public static final int NONE = -1, BAD = -2, STATE = -3, FULL = -4;
    public static final long NO = Long.MIN_VALUE;

    private static final int NOBODY = -5;
    private static final int NOTHING = -11, CAST = -12, PLACE = -13, SIZE = -14;
    private static final int FAULT_BASE = -10, UNENDED_ROW = 100;

    private static final int BIRD = 0, SINGER = 1, HIGH = 2, LATE = 3, LARK = 4, HAWK = 5, TOLD = 6;
    private static final int KINDS = 7;
    /** The kind above each; BIRD has none and stands above itself. */
    private static final int[] ABOVE = {BIRD, BIRD, BIRD, BIRD, SINGER, HIGH, LATE};

    private static final int FLIES = 0, SINGS = 1, TELLS = 2;
    private static final int ACTS = 3;
    /** Per kind the bodies that flies, sings and tells find, its own or those of a kind above. */
    private static final int[] BODIES = {
        10, 11, 12,
        10, 20, 12,
        30, 11, 12,
        10, 11, 40,
        50, 51, 12,
        30, 11, 60,
        71, 70, 40,
    };
    private static final int MOST_DEPTH = 40, MOST_TRACE = 20;

    private static final int HOURS = 24, MOST_TOP = 10, LOWS = 10;
    private static final int ALL_HOURS = (1 << HOURS) - 1;
    private static final int MOST_BIRDS = 7, MOST_PURSE = 9999, MOST_DAY = 9999;
    /** Between which numbers set() lets LOW, TALL, FROM, LONG and PURSE be. */
    private static final int[] LEAST_SET = {0, 1, 0, 1, 0};
    private static final int[] MOST_SET = {9, 10, 23, 24, 9999};
    private static final int MOST_DAYS = 60, MOST_EMPTY_DAYS = 99, MOST_SEEN_DAYS = 20;
    private static final int MOST_SEEN = 5, MOST_LEASES = 6, MOST_BOOK = 8;
    private static final int MOST_TEXT = 100, MOST_ESTUARIES = 6, MOST_CLAUSES = 10, MOST_NESTED = 4;
    private static final int MOST_SIGN = 127, SIGN_BITS = 7;
    private static final int TAPES = 6, MOST_ITEMS = 60, NO_SORT = -1;
    private static final int BYTES = 0, SHORTS = 1, INTS = 2, LONGS = 3, BOOLEANS = 4;
    /** Steps that reckon a PRICE; each stands for a byte of THE TEXT or more. */
    private static final int NOT = 0, AND = 1, OR = 2, TEST = 3, DEAR = 4, CHEAP = 5;
    private static final int STEP_BITS = 3, MOST_STEPS = MOST_TEXT;

    private final Scene now = new Scene();
    private final Scene image = new Scene();
    private boolean hasImage = false;
    private final Reader reader = new Reader();
    /** At 0 stands the one without clauses, which holds while there is none; behind it those that were read. */
    private final Estuary[] estuaries = new Estuary[1 + MOST_ESTUARIES];
    private int estuaryCount = 0;
    private final Tape[] tapes = new Tape[TAPES];
    private final int[] trace = new int[MOST_TRACE];
    private int bodiesRun = 0;

    // Rows and birds to reckon with, made once so that no call makes any.
    private final Scene supposed = new Scene();
    /** A copy to go on with: each pays by itself alone, so one can be followed without the others. */
    private final Bird ghost = new Bird();
    private final int[] heldOnce = new int[HOURS];
    private final int[] heldTwice = new int[HOURS];
    private final int[] foes = new int[MOST_BIRDS];
    private final int[] rents = new int[MOST_BIRDS];
    private final long[] waysTo = new long[MOST_TOP];
    private final long[] waysOn = new long[MOST_TOP];

    public AirByYard() {
        for (int e = 0; e < estuaries.length; e++) {
            estuaries[e] = new Estuary();
        }
        for (int t = 0; t < tapes.length; t++) {
            tapes[t] = new Tape();
        }
    }

    // ---- birds, estuaries

    public int bird(int kind, int v, int low, int tall, int from, int hours) {
        if (!within(kind, 0, KINDS - 1)) {
            return NONE;
        }
        boolean good = within(v, 0, 9) && within(low, 0, LOWS - 1) && within(tall, 1, MOST_TOP)
            && within(from, 0, HOURS - 1) && within(hours, 1, HOURS);
        if (!good) {
            return BAD;
        }
        if (now.size >= MOST_BIRDS) {
            return FULL;
        }
        Bird bird = now.birds[now.size];
        bird.begin(now.size, kind, v);
        bird.low = low;
        bird.tall = tall;
        bird.from = from;
        bird.hours = hours;
        now.size++;
        return bird.number;
    }

    public int of(int bird, int what) {
        Bird one = now.birdAt(bird);
        if (one == null) {
            return NONE;
        }
        Estuary estuary = estuaryNow();
        switch (what) {
            case 0: return one.kind;
            case 1: return one.v;
            case 2: return one.low;
            case 3: return one.tall;
            case 4: return one.from;
            case 5: return one.hours;
            case 6: return one.purse;
            case 7: return one.out ? 1 : 0;
            case 8: return one.bottom();
            case 9: return one.begins(now.day);
            case 10: return estuary.price(one, now.day);
            case 11: return one.strips(estuary.top);
            case 12: return one.rent(estuary, now.day);
            default: return NONE;
        }
    }

    public int set(int bird, int what, int n) {
        Bird one = now.birdAt(bird);
        if (one == null || what < 0 || what >= LEAST_SET.length || what >= MOST_SET.length) {
            return NONE;
        }
        return within(n, LEAST_SET[what], MOST_SET[what]) ? one.change(what, n) : BAD;
    }

    public int evict(int bird, boolean is) {
        Bird one = now.birdAt(bird);
        if (one == null) {
            return NONE;
        }
        int was = one.out ? 1 : 0;
        one.out = is;
        return was;
    }

    public int row(int bird, int part, int n) {
        Bird one = now.birdAt(bird);
        if (one == null || !within(part, 0, Bird.PARTS - 1)) {
            return NONE;
        }
        if (!within(n, 0, 9)) {
            return BAD;
        }
        if (one.kind != TOLD) {
            return STATE;
        }
        int was = one.row[part];
        one.row[part] = n;
        return was;
    }

    public int feed(int sign) {
        if (!within(sign, 0, MOST_SIGN)) {
            return BAD;
        }
        return reader.put(sign) ? reader.size : FULL;
    }

    public int estuary() {
        if (estuaryCount >= MOST_ESTUARIES) {
            return FULL;
        }
        int fault = reader.parse(estuaries[estuaryCount + 1]);
        if (fault != NONE) {
            return FAULT_BASE - fault;
        }
        estuaryCount++;
        now.holding = estuaryCount;
        return estuaryCount - 1;
    }

    public int told(int what) {
        Estuary estuary = estuaryNow();
        switch (what) {
            case 0: return now.day;
            case 1: return estuary.gain;
            case 2: return estuary.top;
            case 3: return now.outBits();
            case 4: return freeStrips(estuary.top);
            case 5: return crowded(now);
            case 6: return rentOfAll(now);
            default: return NONE;
        }
    }

    // ---- the air

    public int held(int height, int hour) {
        int top = estuaryNow().top;
        if (!within(height, 0, top - 1) || !within(hour, 0, HOURS - 1)) {
            return NONE;
        }
        int bits = 0;
        for (int b = 0; b < now.size; b++) {
            if (now.birds[b].holds(height, hour, top, now.day)) {
                bits |= 1 << b;
            }
        }
        return bits;
    }

    public int free(int hour) {
        if (!within(hour, 0, HOURS - 1)) {
            return NONE;
        }
        int top = estuaryNow().top;
        layAir(now, top, NONE);
        return freeAt(hour, top);
    }

    public int clash(int one, int other) {
        Bird first = now.birdAt(one);
        Bird second = now.birdAt(other);
        if (first == null || second == null) {
            return NONE;
        }
        return one == other ? BAD : clashOf(first, second);
    }

    public int worst() {
        int pair = NOBODY;
        int most = 0;
        for (int one = 0; one < now.size; one++) {
            for (int other = one + 1; other < now.size; other++) {
                int strips = clashOf(now.birds[one], now.birds[other]);
                if (strips > most) {
                    most = strips;
                    pair = 10 * one + other;
                }
            }
        }
        return pair;
    }

    // ---- days

    public int pass(int n) {
        if (!within(n, 0, MOST_DAYS)) {
            return BAD;
        }
        if (now.day + n > MOST_DAY) {
            return STATE;
        }
        Estuary estuary = estuaryNow();
        for (int b = 0; b < now.size; b++) {
            now.birds[b].live(estuary, now.day, n);
        }
        now.day += n;
        return now.day;
    }

    public int on(int n, int what) {
        Bird one = now.birdAt(what >= 20 ? what - 20 : what >= 10 ? what - 10 : NONE);
        if (what != 0 && what != 1 && one == null) {
            return NONE;
        }
        if (!within(n, 0, MOST_DAYS)) {
            return BAD;
        }
        Estuary estuary = estuaryNow();
        if (one != null) {
            ghost.become(one);
            ghost.live(estuary, now.day, n);
            return what >= 20 ? ghost.rent(estuary, now.day + n) : ghost.purse;
        }
        int bits = 0;
        int rent = 0;
        for (int b = 0; b < now.size; b++) {
            ghost.become(now.birds[b]);
            ghost.live(estuary, now.day, n);
            bits |= ghost.out ? 1 << b : 0;
            rent += ghost.rent(estuary, now.day + n);
        }
        return what == 0 ? bits : rent;
    }

    public int empty(int bird) {
        Bird one = now.birdAt(bird);
        if (one == null) {
            return NONE;
        }
        Estuary estuary = estuaryNow();
        ghost.become(one);
        for (int days = 0; days <= MOST_EMPTY_DAYS; days++) {
            if (ghost.out) {
                return days;
            }
            ghost.liveADay(estuary, now.day + days);
        }
        return NOBODY;
    }

    // ---- what is best

    public int lower(int bird, int what) {
        Bird one = now.birdAt(bird);
        if (one == null || !within(what, 0, 1)) {
            return NONE;
        }
        int top = estuaryNow().top;
        layAir(now, top, bird);
        ghost.become(one);
        int best = 0;
        int fewest = 0;
        for (int low = 0; low < LOWS; low++) {
            ghost.low = low;
            int shared = sharedStrips(ghost, top);
            if (low == 0 || shared < fewest) {
                best = low;
                fewest = shared;
            }
        }
        return what == 0 ? best : fewest;
    }

    public int sooner(int bird, int what) {
        Bird one = now.birdAt(bird);
        if (one == null || !within(what, 0, 1)) {
            return NONE;
        }
        int top = estuaryNow().top;
        layAir(now, top, bird);
        ghost.become(one);
        int best = 0;
        int fewest = 0;
        for (int from = 0; from < HOURS; from++) {
            ghost.from = from;
            int shared = sharedStrips(ghost, top);
            if (from == 0 || shared < fewest) {
                best = from;
                fewest = shared;
            }
        }
        return what == 0 ? best : fewest;
    }

    public int let(int what) {
        if (!within(what, 0, 1)) {
            return NONE;
        }
        findFoes();
        findRents();
        int outs = now.outBits();
        int all = (1 << now.size) - 1;
        int best = 0;
        int most = 0;
        for (int set = 1; set <= all; set++) {
            if ((set & outs) != 0 || !isPeaceful(set)) {
                continue;
            }
            int rent = rentOfSet(set);
            if (rent > most) {
                best = set;
                most = rent;
            }
        }
        return what == 0 ? best : most;
    }

    public int whoEvict() {
        findFoes();
        int all = (1 << now.size) - 1;
        int best = all;
        for (int set = 0; set <= all; set++) {
            if (Integer.bitCount(set) < Integer.bitCount(best) && isPeaceful(all & ~set)) {
                best = set;
            }
        }
        return best;
    }

    public long ways(int height) {
        int top = estuaryNow().top;
        if (!within(height, 0, top - 1)) {
            return NO;
        }
        layAir(now, top, NONE);
        for (int at = 0; at < waysTo.length; at++) {
            waysTo[at] = at == height && isFree(at, 0, top) ? 1 : 0;
        }
        for (int hour = 1; hour < HOURS; hour++) {
            goAnHour(hour, top);
        }
        long sum = 0;
        for (int at = 0; at < waysTo.length; at++) {
            sum += waysTo[at];
        }
        return sum;
    }

    public int outs(int height) {
        int top = estuaryNow().top;
        if (!within(height, 0, top - 1)) {
            return NONE;
        }
        layAir(now, top, NONE);
        int bits = 1 << height & freeAt(0, top);
        for (int hour = 1; hour < HOURS; hour++) {
            bits = (bits | bits << 1 | bits >> 1) & freeAt(hour, top);
        }
        return bits;
    }

    // ---- seen, odds

    public int see(int height, int hour, boolean isHeld, int n) {
        if (height == -1) {
            now.seen.size = 0;
            return 0;
        }
        boolean good = within(height, 0, MOST_TOP - 1) && within(hour, 0, HOURS - 1)
            && within(n, 0, MOST_SEEN_DAYS);
        if (!good) {
            return BAD;
        }
        return now.seen.put(height, hour, isHeld ? 1 : 0, n) ? now.seen.size : FULL;
    }

    public int can(int bird, int what) {
        Bird one = now.birdAt(bird);
        if (one == null || !within(what, 0, 1)) {
            return NONE;
        }
        Estuary estuary = estuaryNow();
        int heldByOthers = 0;
        for (int b = 0; b < now.size; b++) {
            if (b != bird) {
                heldByOthers |= seenHeldBy(now.birds[b], now.birds[b].low, estuary);
            }
        }
        int due = seenAsTold();
        int lows = 0;
        int least = NOBODY;
        for (int low = 0; low < LOWS; low++) {
            if ((heldByOthers | seenHeldBy(one, low, estuary)) == due) {
                least = lows == 0 ? low : least;
                lows++;
            }
        }
        return what == 0 ? lows : least;
    }

    public long odds(int hour, int part) {
        if (!within(hour, 0, HOURS - 1) || !within(part, 0, 1)) {
            return NO;
        }
        int top = estuaryNow().top;
        layAir(now, top, NONE);
        return partOfFraction(Integer.bitCount(freeAt(hour, top)), top, part);
    }

    public long mean(int part) {
        int renting = now.size - Integer.bitCount(now.outBits());
        if (renting == 0 || !within(part, 0, 1)) {
            return NO;
        }
        return partOfFraction(rentOfAll(now), renting, part);
    }

    // ---- leases, books

    public int lease(int bird, int low, int from) {
        if (bird == -1) {
            now.leases.size = 0;
            return 0;
        }
        if (now.birdAt(bird) == null) {
            return NONE;
        }
        if (!within(low, 0, LOWS - 1) || !within(from, 0, HOURS - 1)) {
            return BAD;
        }
        return now.leases.put(bird, low, from, 0) ? now.leases.size : FULL;
    }

    public int leased(int what) {
        if (!within(what, 0, 1)) {
            return NONE;
        }
        supposed.become(now);
        for (int r = 0; r < now.leases.size; r++) {
            Bird one = supposed.birdAt(now.leases.first[r]);
            if (one != null) {
                one.low = now.leases.second[r];
                one.from = now.leases.third[r];
            }
        }
        return what == 0 ? crowded(supposed) : rentOfAll(supposed);
    }

    public int book(int bird, int purse) {
        if (bird == -1) {
            now.book.size = 0;
            return 0;
        }
        if (now.birdAt(bird) == null) {
            return NONE;
        }
        if (!within(purse, 0, MOST_PURSE)) {
            return BAD;
        }
        return now.book.put(bird, purse, 0, 0) ? now.book.size : FULL;
    }

    public int looked() {
        for (int r = 0; r < now.book.size; r++) {
            Bird one = now.birdAt(now.book.first[r]);
            if (one == null || one.purse != now.book.second[r]) {
                return r;
            }
        }
        return NOBODY;
    }

    // ---- judging, the image, acts, tapes

    public int judge(int tape, int i) {
        if (!within(tape, 0, TAPES - 1)) {
            return NONE;
        }
        Tape told = tapes[tape];
        if (told.sort != NO_SORT && told.sort != LONGS) {
            return CAST;
        }
        if (i < 0) {
            return UNENDED_ROW;
        }
        int top = estuaryNow().top;
        layAir(now, top, NONE);
        for (int hour = 0; hour < HOURS; hour++) {
            if (i >= told.size - hour) {
                return UNENDED_ROW + hour;
            }
            if (told.items[i + hour] != freeAt(hour, top)) {
                return hour;
            }
        }
        return NOBODY;
    }

    public int image() {
        image.become(now);
        hasImage = true;
        return now.size;
    }

    public int undo() {
        if (!hasImage) {
            return STATE;
        }
        now.become(image);
        return now.size;
    }

    public int act(int bird, int act, int x) {
        bodiesRun = 0;
        Bird one = now.birdAt(bird);
        if (one == null || !within(act, 0, ACTS - 1)) {
            return 0;
        }
        return run(one, one.kind, act, x, 0);
    }

    public int trace(int i) {
        if (i < 0 || i >= bodiesRun || i >= trace.length) {
            return NONE;
        }
        return trace[i];
    }

    public int taken(int bird, int k) {
        if (!within(k, 0, KINDS - 1)) {
            return BAD;
        }
        Bird one = now.birdAt(bird);
        if (one == null) {
            return NOTHING;
        }
        return isUnder(one.kind, k) ? one.kind : CAST;
    }

    public int count(int what) {
        switch (what) {
            case 0: return now.size;
            case 1: return estuaryCount;
            case 2: return now.seen.size;
            case 3: return now.leases.size;
            case 4: return now.book.size;
            case 5: return reader.size;
            case 6: return bodiesRun;
            default: return BAD;
        }
    }

    public int tape(int tape, int sort, int n) {
        if (!within(tape, 0, TAPES - 1)) {
            return NONE;
        }
        if (sort == NO_SORT) {
            tapes[tape].begin(NO_SORT, 0);
            return 1;
        }
        if (!within(sort, BYTES, BOOLEANS) || n > MOST_ITEMS) {
            return BAD;
        }
        if (n < 0) {
            return SIZE;
        }
        tapes[tape].begin(sort, n);
        return 1;
    }

    public int item(int tape, int i, long v) {
        if (!within(tape, 0, TAPES - 1)) {
            return NONE;
        }
        Tape row = tapes[tape];
        if (row.sort == NO_SORT) {
            return NOTHING;
        }
        if (i < 0 || i >= row.size) {
            return PLACE;
        }
        row.items[i] = row.cut(v);
        return 1;
    }

    public long read(int tape, int i) {
        if (!within(tape, 0, TAPES - 1)) {
            return NO;
        }
        Tape row = tapes[tape];
        return i < 0 || i >= row.size ? NO : row.items[i];
    }

    public int shift(int tape, int i, int other, int j, int n) {
        if (!within(tape, 0, TAPES - 1) || !within(other, 0, TAPES - 1)) {
            return NONE;
        }
        Tape source = tapes[tape];
        Tape target = tapes[other];
        if (source.sort == NO_SORT || target.sort == NO_SORT) {
            return NOTHING;
        }
        if (source.sort != target.sort) {
            return CAST;
        }
        if (!source.hasPart(i, n) || !target.hasPart(j, n)) {
            return PLACE;
        }
        System.arraycopy(source.items, i, target.items, j, n);
        return n;
    }

    // ---- what the calls are made of

    private static boolean within(int n, int least, int most) {
        return n >= least && n <= most;
    }

    private Estuary estuaryNow() {
        boolean known = within(now.holding, 0, MOST_ESTUARIES);
        return estuaries[known ? now.holding : 0];
    }

    /** Notes for each hour which heights somebody holds, and which two or more, but for what one of them holds. */
    private void layAir(Scene scene, int top, int without) {
        for (int hour = 0; hour < HOURS; hour++) {
            heldOnce[hour] = 0;
            heldTwice[hour] = 0;
        }
        for (int b = 0; b < scene.size; b++) {
            if (b != without) {
                layBird(scene.birds[b].heights(top), scene.birds[b].span(scene.day));
            }
        }
    }

    private void layBird(int heights, int span) {
        for (int hour = 0; hour < HOURS; hour++) {
            if ((span >> hour & 1) != 0) {
                heldTwice[hour] |= heldOnce[hour] & heights;
                heldOnce[hour] |= heights;
            }
        }
    }

    /** By the air as it was laid last. */
    private int freeAt(int hour, int top) {
        return within(hour, 0, HOURS - 1) ? (1 << top) - 1 & ~heldOnce[hour] : 0;
    }

    private boolean isFree(int height, int hour, int top) {
        return (freeAt(hour, top) >> height & 1) != 0;
    }

    private int freeStrips(int top) {
        layAir(now, top, NONE);
        int strips = 0;
        for (int hour = 0; hour < HOURS; hour++) {
            strips += Integer.bitCount(freeAt(hour, top));
        }
        return strips;
    }

    private int crowded(Scene scene) {
        layAir(scene, estuaryNow().top, NONE);
        int strips = 0;
        for (int hour = 0; hour < HOURS; hour++) {
            strips += Integer.bitCount(heldTwice[hour]);
        }
        return strips;
    }

    private int rentOfAll(Scene scene) {
        Estuary estuary = estuaryNow();
        int rent = 0;
        for (int b = 0; b < scene.size; b++) {
            rent += scene.birds[b].rent(estuary, scene.day);
        }
        return rent;
    }

    private int clashOf(Bird one, Bird other) {
        int top = estuaryNow().top;
        int heights = one.heights(top) & other.heights(top);
        int hours = one.span(now.day) & other.span(now.day);
        return Integer.bitCount(heights) * Integer.bitCount(hours);
    }

    private int sharedStrips(Bird one, int top) {
        int heights = one.heights(top);
        int span = one.span(now.day);
        int strips = 0;
        for (int hour = 0; hour < HOURS; hour++) {
            if ((span >> hour & 1) != 0) {
                strips += Integer.bitCount(heights & heldOnce[hour]);
            }
        }
        return strips;
    }

    private void findFoes() {
        for (int one = 0; one < now.size; one++) {
            int bits = 0;
            for (int other = 0; other < now.size; other++) {
                if (other != one && clashOf(now.birds[one], now.birds[other]) > 0) {
                    bits |= 1 << other;
                }
            }
            foes[one] = bits;
        }
    }

    private void findRents() {
        Estuary estuary = estuaryNow();
        for (int b = 0; b < now.size; b++) {
            rents[b] = now.birds[b].rent(estuary, now.day);
        }
    }

    private boolean isPeaceful(int set) {
        for (int b = 0; b < now.size; b++) {
            if ((set >> b & 1) != 0 && (set & foes[b]) != 0) {
                return false;
            }
        }
        return true;
    }

    private int rentOfSet(int set) {
        int sum = 0;
        for (int b = 0; b < now.size; b++) {
            if ((set >> b & 1) != 0) {
                sum += rents[b];
            }
        }
        return sum;
    }

    private void goAnHour(int hour, int top) {
        for (int at = 0; at < waysOn.length; at++) {
            long below = at > 0 ? waysTo[at - 1] : 0;
            long above = at + 1 < waysTo.length ? waysTo[at + 1] : 0;
            waysOn[at] = isFree(at, hour, top) ? below + waysTo[at] + above : 0;
        }
        System.arraycopy(waysOn, 0, waysTo, 0, waysTo.length);
    }

    /** Which rows of SEEN tell of a strip that one bird, were its LOW another now, will hold then. */
    private int seenHeldBy(Bird one, int low, Estuary estuary) {
        ghost.become(one);
        ghost.low = low;
        int last = lastSeenDays();
        int bits = 0;
        for (int days = 0; days <= last; days++) {
            for (int r = 0; r < now.seen.size; r++) {
                boolean isHeld = now.seen.fourth[r] == days
                    && ghost.holds(now.seen.first[r], now.seen.second[r], estuary.top, now.day + days);
                bits |= isHeld ? 1 << r : 0;
            }
            ghost.liveADay(estuary, now.day + days);
        }
        return bits;
    }

    private int lastSeenDays() {
        int last = NONE;
        for (int r = 0; r < now.seen.size; r++) {
            last = Math.max(last, now.seen.fourth[r]);
        }
        return last;
    }

    private int seenAsTold() {
        int bits = 0;
        for (int r = 0; r < now.seen.size; r++) {
            bits |= now.seen.third[r] << r;
        }
        return bits;
    }

    private static long partOfFraction(int above, int below, int part) {
        int divisor = below;
        int rest = above;
        for (int step = 0; step < 64 && rest != 0; step++) {
            int next = divisor % rest;
            divisor = rest;
            rest = next;
        }
        return divisor == 0 ? 0 : (part == 0 ? above : below) / divisor;
    }

    private static boolean isUnder(int kind, int k) {
        int at = kind;
        for (int step = 0; step < KINDS && at != k && within(at, 0, KINDS - 1); step++) {
            at = ABOVE[at];
        }
        return at == k;
    }

    /** Runs the body that a bird finds for an act when it is looked for from a kind on upward. */
    private int run(Bird one, int kind, int act, int x, int depth) {
        int slot = ACTS * kind + act;
        if (depth > MOST_DEPTH || slot < 0 || slot >= BODIES.length) {
            return 0;
        }
        int body = BODIES[slot];
        note(body);
        int own = one.kind;
        int up = kindAbove(body);
        int deeper = depth + 1;
        switch (body) {
            case 10: return x + one.number;
            case 11: return run(one, own, FLIES, x, deeper) - one.v;
            case 12: return run(one, own, SINGS, x, deeper) * 2;
            case 20: return run(one, up, SINGS, x, deeper) ^ 6;
            case 30: return run(one, up, FLIES, x * 3, deeper);
            case 40: return run(one, up, TELLS, x, deeper) + run(one, own, SINGS, 1, deeper);
            case 50: return -run(one, up, FLIES, x, deeper);
            case 51: return run(one, up, SINGS, x + 1, deeper);
            case 60: return run(one, up, TELLS, x - one.number, deeper);
            case 70: return run(one, up, SINGS, x, deeper) + run(one, up, FLIES, 2, deeper);
            case 71: return run(one, up, FLIES, x, deeper) ^ one.v;
            default: return 0;
        }
    }

    /** The tens of a body's number tell whose it is: 10 BIRD's, 20 SINGER's and so on. */
    private static int kindAbove(int body) {
        int owner = body / 10 - 1;
        return within(owner, 0, KINDS - 1) ? ABOVE[owner] : BIRD;
    }

    private void note(int body) {
        if (bodiesRun < trace.length) {
            trace[bodiesRun] = body;
        }
        bodiesRun++;
    }

    private static final class Bird {
        static final int PARTS = 4;
        private static final int FIRST_PURSE = 100;

        final int[] row = new int[PARTS];
        int number, kind, v, low, tall, from, hours, purse;
        boolean out;

        void begin(int number, int kind, int v) {
            this.number = number;
            this.kind = kind;
            this.v = v;
            purse = FIRST_PURSE;
            out = false;
            for (int part = 0; part < PARTS; part++) {
                row[part] = 0;
            }
        }

        void become(Bird other) {
            number = other.number;
            kind = other.kind;
            v = other.v;
            low = other.low;
            tall = other.tall;
            from = other.from;
            hours = other.hours;
            purse = other.purse;
            out = other.out;
            System.arraycopy(other.row, 0, row, 0, PARTS);
        }

        /** Sets what set() can set; answers what it was. */
        int change(int what, int n) {
            int was;
            switch (what) {
                case 0:
                    was = low;
                    low = n;
                    return was;
                case 1:
                    was = tall;
                    tall = n;
                    return was;
                case 2:
                    was = from;
                    from = n;
                    return was;
                case 3:
                    was = hours;
                    hours = n;
                    return was;
                default:
                    was = purse;
                    purse = n;
                    return was;
            }
        }

        int bottom() {
            return kind == HIGH || kind == HAWK ? low + 2 : low;
        }

        int begins(int day) {
            int later = 0;
            if (kind == LATE || kind == TOLD) {
                later = Math.floorMod(day, 2);
            }
            if (kind == TOLD) {
                later += row[Math.floorMod(day, PARTS)];
            }
            if (kind == HAWK) {
                later = Math.floorMod(day, 3);
            }
            return Math.floorMod(from + later, HOURS);
        }

        /** What it holds are these heights in each of its hours; none if it is OUT. */
        int heights(int top) {
            if (out) {
                return 0;
            }
            int tallest = kind == LARK ? MOST_TOP : tall;
            int thereAre = (1 << top) - 1;
            return (1 << tallest) - 1 << bottom() & thereAre;
        }

        int span(int day) {
            long unturned = (1L << hours) - 1 << begins(day);
            return (int) (unturned | unturned >> HOURS) & ALL_HOURS;
        }

        boolean holds(int height, int hour, int top, int day) {
            return (heights(top) >> height & 1) != 0 && (span(day) >> hour & 1) != 0;
        }

        int strips(int top) {
            return Integer.bitCount(heights(top)) * hours;
        }

        int rent(Estuary estuary, int day) {
            int strips = strips(estuary.top);
            int whole = strips == 0 ? 0 : strips * estuary.price(this, day);
            return kind == SINGER || kind == LARK ? whole / 2 : whole;
        }

        void live(Estuary estuary, int day, int days) {
            for (int d = 0; d < days; d++) {
                liveADay(estuary, day + d);
            }
        }

        void liveADay(Estuary estuary, int day) {
            if (out) {
                return;
            }
            int left = purse + estuary.gain - rent(estuary, day);
            out = left < 0;
            purse = Math.max(0, Math.min(MOST_PURSE, left));
        }
    }

    /** All that THE IMAGE keeps. */
    private static final class Scene {
        final Bird[] birds = new Bird[MOST_BIRDS];
        int size = 0;
        int day = 0;
        int holding = 0;
        final Rows seen = new Rows(MOST_SEEN);
        final Rows leases = new Rows(MOST_LEASES);
        final Rows book = new Rows(MOST_BOOK);

        Scene() {
            for (int b = 0; b < birds.length; b++) {
                birds[b] = new Bird();
            }
        }

        Bird birdAt(int n) {
            return n >= 0 && n < size && n < birds.length ? birds[n] : null;
        }

        int outBits() {
            int bits = 0;
            for (int b = 0; b < size; b++) {
                bits |= birds[b].out ? 1 << b : 0;
            }
            return bits;
        }

        void become(Scene other) {
            size = other.size;
            day = other.day;
            holding = other.holding;
            for (int b = 0; b < size; b++) {
                birds[b].become(other.birds[b]);
            }
            seen.become(other.seen);
            leases.become(other.leases);
            book.become(other.book);
        }
    }

    /** Rows of up to four numbers, told by hand. */
    private static final class Rows {
        final int[] first, second, third, fourth;
        int size = 0;

        Rows(int most) {
            first = new int[most];
            second = new int[most];
            third = new int[most];
            fourth = new int[most];
        }

        boolean put(int a, int b, int c, int d) {
            if (size >= first.length) {
                return false;
            }
            first[size] = a;
            second[size] = b;
            third[size] = c;
            fourth[size] = d;
            size++;
            return true;
        }

        /** Both have the same most. */
        void become(Rows other) {
            size = Math.min(other.size, first.length);
            for (int r = 0; r < size && r < other.first.length; r++) {
                first[r] = other.first[r];
                second[r] = other.second[r];
                third[r] = other.third[r];
                fourth[r] = other.fourth[r];
            }
        }
    }

    /** What was read of a text: its GAIN, its TOP, and steps that reckon the PRICE, conditions operands first. */
    private static final class Estuary {
        private final int[] steps = new int[MOST_STEPS];
        private int stepCount = 0;
        int gain = 0;
        int top = MOST_TOP;

        void clear() {
            stepCount = 0;
            gain = 0;
            top = MOST_TOP;
        }

        void put(int step, int of) {
            if (stepCount < steps.length) {
                steps[stepCount] = step | of << STEP_BITS;
                stepCount++;
            }
        }

        /** What is known of a condition is a stack of bits, the latest lowest; 4 nested leave it far below 64. */
        int price(Bird bird, int day) {
            int price = 1;
            long known = 0;
            for (int at = 0; at < stepCount && at < steps.length; at++) {
                int of = steps[at] >> STEP_BITS;
                switch (steps[at] & (1 << STEP_BITS) - 1) {
                    case NOT:
                        known ^= 1;
                        break;
                    case AND:
                        known = known >> 1 & (known | ~1L);
                        break;
                    case OR:
                        known = known >> 1 | known & 1;
                        break;
                    case TEST:
                        known = known << 1 | (passes(of, bird, day) ? 1 : 0);
                        break;
                    case DEAR:
                        price += (known & 1) != 0 ? of : 0;
                        known = 0;
                        break;
                    default:
                        price -= (known & 1) != 0 ? of : 0;
                        known = 0;
                        break;
                }
            }
            return Math.max(0, price);
        }

        static int testOf(int letter, int sign, int number) {
            return (letter << SIGN_BITS | sign) << SIGN_BITS | number;
        }

        private static boolean passes(int test, Bird bird, int day) {
            int number = test & MOST_SIGN;
            int has = trait(test >> 2 * SIGN_BITS, bird, day);
            switch (test >> SIGN_BITS & MOST_SIGN) {
                case '<': return has < number;
                case '=': return has == number;
                default: return has > number;
            }
        }

        private static int trait(int letter, Bird bird, int day) {
            switch (letter) {
                case 'b': return bird.number;
                case 'k': return bird.kind;
                case 'v': return bird.v;
                case 'l': return bird.low;
                case 'f': return bird.from;
                default: return day % 10;
            }
        }
    }

    /**
     * THE TEXT, and its reading. No byte is passed before it is known to go on an estuary, so where reading stops
     * is the FAULT.
     */
    private static final class Reader {
        private final byte[] signs = new byte[MOST_TEXT];
        int size = 0;
        private int at = 0;

        boolean put(int sign) {
            if (size >= signs.length) {
                return false;
            }
            signs[size] = (byte) sign;
            size++;
            return true;
        }

        /** Answers the FAULT, or NONE; the text is empty then. */
        int parse(Estuary into) {
            at = 0;
            into.clear();
            boolean good = clause(into);
            for (int more = 1; more < MOST_CLAUSES && good && at < size; more++) {
                good = skip(';') && clause(into);
            }
            boolean whole = good && at == size;
            size = 0;
            return whole ? NONE : at;
        }

        private boolean clause(Estuary into) {
            switch (next()) {
                case 'd': return skipWord("dear ") && change(into, DEAR);
                case 'c': return skipWord("cheap ") && change(into, CHEAP);
                case 'g': return skipWord("gain ") && gain(into);
                default: return skipWord("top ") && top(into);
            }
        }

        private boolean change(Estuary into, int step) {
            int n = number();
            boolean good = n != NONE && skip(' ') && either(into, 0);
            into.put(step, n);
            return good;
        }

        private boolean gain(Estuary into) {
            int n = number();
            into.gain = n;
            return n != NONE;
        }

        private boolean top(Estuary into) {
            int n = number();
            into.top = Math.max(1, Math.min(MOST_TOP, n));
            return n != NONE;
        }

        /** An OR is put when all between it and the next | is known, for & binds closer. */
        private boolean either(Estuary into, int nested) {
            boolean good = factor(into, nested);
            boolean isOrDue = false;
            for (int more = 0; more < MOST_TEXT && good && (next() == '&' || next() == '|'); more++) {
                boolean isAnd = next() == '&';
                at++;
                if (!isAnd && isOrDue) {
                    into.put(OR, 0);
                }
                good = factor(into, nested);
                if (isAnd) {
                    into.put(AND, 0);
                }
                isOrDue |= !isAnd;
            }
            if (isOrDue) {
                into.put(OR, 0);
            }
            return good;
        }

        private boolean factor(Estuary into, int nested) {
            int sign = next();
            if (sign != '!' && sign != '(') {
                return test(into);
            }
            if (nested >= MOST_NESTED) {
                return false;
            }
            at++;
            if (sign == '(') {
                return either(into, nested + 1) && skip(')');
            }
            boolean good = factor(into, nested + 1);
            into.put(NOT, 0);
            return good;
        }

        private boolean test(Estuary into) {
            int letter = next();
            if (!isLetter(letter)) {
                return false;
            }
            at++;
            int sign = next();
            if (sign != '<' && sign != '=' && sign != '>') {
                return false;
            }
            at++;
            int n = number();
            into.put(TEST, Estuary.testOf(letter, sign, n));
            return n != NONE;
        }

        private static boolean isLetter(int sign) {
            return sign == 'b' || sign == 'k' || sign == 'v' || sign == 'l' || sign == 'f' || sign == 'd';
        }

        private int next() {
            return at >= 0 && at < size && at < signs.length ? signs[at] : NONE;
        }

        private boolean skip(char sign) {
            boolean is = next() == sign;
            if (is) {
                at++;
            }
            return is;
        }

        private boolean skipWord(String word) {
            boolean good = true;
            for (int i = 0; good && i < word.length(); i++) {
                good = skip(word.charAt(i));
            }
            return good;
        }

        /** One or two digits; NONE if there is none. */
        private int number() {
            int n = NONE;
            for (int digits = 0; digits < 2 && next() >= '0' && next() <= '9'; digits++) {
                n = 10 * Math.max(0, n) + next() - '0';
                at++;
            }
            return n;
        }
    }

    /** Whatever its sort, its items stand as longs, cut to what an item of that sort has. */
    private static final class Tape {
        final long[] items = new long[MOST_ITEMS];
        int sort = NO_SORT;
        int size = 0;

        void begin(int sort, int size) {
            this.sort = sort;
            this.size = Math.max(0, Math.min(MOST_ITEMS, size));
            for (int i = 0; i < items.length; i++) {
                items[i] = 0;
            }
        }

        long cut(long v) {
            switch (sort) {
                case BYTES: return (byte) v;
                case SHORTS: return (short) v;
                case INTS: return (int) v;
                case BOOLEANS: return v != 0 ? 1 : 0;
                default: return v;
            }
        }

        boolean hasPart(int from, int n) {
            return n >= 0 && from >= 0 && (long) from + n <= size;
        }
    }
}
