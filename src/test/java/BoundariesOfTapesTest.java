/**
 * Promises 27 to 41 (leases, books, judging, the image, acts, tapes): a test of its own for each
 * sentence that names a boundary: too small, too large, empty, full, wrapping.
 */
final class BoundariesOfTapesTest extends Due {
    public static void main(String[] args) {
        promise(27); sixLeases();
        promise(28); leased();
        promise(29); eightRows();
        promise(30); looked();
        promise(31); judged();
        promise(32); imageOfNone();
        promise(33); imageOfAll(); fewerAgain(); estuariesOfTheImage();
        promise(34); wrapping();
        promise(35); traces();
        promise(36); kinds();
        promise(37); counts();
        promise(38); rowsOf0And60();
        promise(39); itemsOfEachSort(); lastPlaces();
        promise(40); placesRead();
        promise(41); shifts();
        end("BoundariesOfTapesTest");
    }

    // ---- leases, books

    private static void sixLeases() {
        says("LEASES: a BIRD, a LOW, a FROM; NONE; BAD: low, from");
        AirByYard one = new AirByYard();
        one.bird(BIRD, 0, 0, 1, 0, 1);
        takes("lease, low", 0, 9, n -> cleared(one) + one.lease(0, n, 0), n -> 1);
        takes("lease, from", 0, 23, n -> cleared(one) + one.lease(0, 0, n), n -> 1);
        for (int b : new int[] {-2, 1, 7, MIN, MAX}) due("lease(" + b + ", 0, 0)", one.lease(b, 0, 0), NONE);
        due("no birds", new AirByYard().lease(0, 0, 0), NONE);
        says("(6 rows at most) FULL: 6");
        AirByYard x = seven(BIRD, 1, 24);
        for (int n = 1; n <= 6; n++) due("lease", x.lease(6, 9, 23), n);
        due("a seventh", x.lease(6, 9, 23), FULL);
        due("a bad seventh", x.lease(6, 10, 23), BAD);
        due("a seventh of nobody", x.lease(7, 10, 23), NONE);
        says("bird -1: it is empty then, 0, whatever the others are");
        due("empty", x.lease(-1, MIN, MAX), 0);
        due("empty again", x.lease(-1, 0, 0), 0);
        due("no birds", new AirByYard().lease(-1, 0, 0), 0);
        due("how many", x.count(3), 0);
        for (int n = 1; n <= 6; n++) due("lease again", x.lease(0, 0, 0), n);
    }

    private static int cleared(AirByYard x) { return x.lease(-1, 0, 0); }

    private static void leased() {
        says("LEASED: if that all were so, one behind the other; NONE");
        AirByYard x = with("dear 1 l=9");
        x.bird(BIRD, 0, 0, 1, 0, 2);
        x.bird(BIRD, 0, 0, 1, 1, 2);
        due("none of them", x.leased(0), 1);
        due("none of them", x.leased(1), 4);
        x.lease(0, 9, 23);
        due("one", x.leased(0), 0);
        due("one", x.leased(1), 6);
        x.lease(1, 9, 0);
        due("two", x.leased(0), 1);
        due("two", x.leased(1), 8);
        x.lease(0, 0, 0);
        x.lease(1, 0, 23);
        x.lease(1, 0, 0);
        due("five", x.leased(0), 2);
        due("five", x.leased(1), 4);
        x.lease(1, 1, 0);
        due("six", x.leased(0), 0);
        due("crowded is as it was", x.told(5), 1);
        for (int what : beyond(0, 1)) due("leased(" + what + ")", x.leased(what), NONE);
        says("LEASED of one that is OUT, and of 7");
        x.evict(1, true);
        due("out", x.leased(1), 2);
        x = seven(BIRD, 1, 24);
        for (int b = 1; b < 7; b++) x.lease(b, 0, 0);
        due("crowded", x.leased(0), 24);
        due("rent", x.leased(1), 7 * 24);
        says("LEASED goes by the BIRD's own number");
        x = with("dear 1 b=1;dear 2 v=1");
        x.bird(BIRD, 0, 0, 1, 0, 1);
        x.bird(BIRD, 1, 1, 1, 0, 1);
        due("as it is", x.leased(1), 5);
        x.lease(1, 2, 0);
        due("as it is", x.leased(1), 5);
    }

    private static void eightRows() {
        says("A BOOK: BIRDS, PURSES (0 .. 9999); NONE; BAD: purse");
        AirByYard one = new AirByYard();
        one.bird(BIRD, 0, 0, 1, 0, 1);
        takes("book, purse", 0, 9999, n -> one.book(-1, 0) + one.book(0, n), n -> 1);
        for (int b : new int[] {-2, 1, 7, MIN, MAX}) due("book(" + b + ", 0)", one.book(b, 0), NONE);
        due("no birds", new AirByYard().book(0, 0), NONE);
        says("8 at most: FULL: 8");
        AirByYard x = seven(BIRD, 1, 24);
        for (int n = 1; n <= 8; n++) due("book", x.book(6, 9999), n);
        due("a ninth", x.book(6, 0), FULL);
        due("a bad ninth", x.book(6, 10000), BAD);
        due("a ninth of nobody", x.book(7, 10000), NONE);
        says("bird -1: it is empty then, 0, whatever the other is");
        due("empty", x.book(-1, MIN), 0);
        due("empty again", x.book(-1, MAX), 0);
        due("no birds", new AirByYard().book(-1, 0), 0);
        due("how many", x.count(4), 0);
        for (int n = 1; n <= 8; n++) due("book again", x.book(0, 0), n);
    }

    private static void looked() {
        says("LOOKED at: the number of the first of these rows by which it is otherwise now (-5: none)");
        AirByYard x = seven(BIRD, 1, 1);
        due("no rows", x.looked(), NOBODY);
        for (int r = 0; r < 8; r++) x.book(r % 7, 100);
        due("all are so", x.looked(), NOBODY);
        x.book(-1, 0);
        for (int r = 0; r < 7; r++) x.book(r, 100);
        x.book(0, 99);
        due("the last", x.looked(), 7);
        for (int b = 6; b >= 0; b--) {
            x.set(b, 4, 99);
            due("the first", x.looked(), b);
        }
        x.set(0, 4, 100);
        due("the second", x.looked(), 1);
        says("LOOKED at the least and the greatest PURSE");
        x = new AirByYard();
        x.bird(BIRD, 0, 0, 1, 0, 1);
        x.book(0, 0);
        due("not 0", x.looked(), 0);
        x.set(0, 4, 0);
        due("0", x.looked(), NOBODY);
        x.book(0, 9999);
        due("not 9999", x.looked(), 1);
    }

    // ---- judging, the image, acts, tapes

    /** A row of n longs that tell from a place on what is free. */
    private static void tellFree(AirByYard x, int tape, int n, int from) {
        x.tape(tape, 3, n);
        for (int hour = 0; hour < 24 && from + hour < n; hour++) x.item(tape, from + hour, x.free(hour));
    }

    private static AirByYard sevenHeights() {
        AirByYard x = with("top 7");
        x.bird(BIRD, 0, 2, 3, 22, 4);
        return x;
    }

    private static void judged() {
        AirByYard x = sevenHeights();
        says("JUDGED: -5: none");
        tellFree(x, 0, 24, 0);
        due("a row of 24", x.judge(0, 0), NOBODY);
        tellFree(x, 0, 60, 0);
        due("a row of 60", x.judge(0, 0), NOBODY);
        tellFree(x, 0, 60, 36);
        due("its last place for 24", x.judge(0, 36), NOBODY);
        says("100 and how many were looked at, if the row ends ahead of that");
        tellFree(x, 0, 60, 37);
        due("one place on", x.judge(0, 37), 123);
        tellFree(x, 0, 60, 59);
        due("its last place", x.judge(0, 59), 101);
        due("behind its last place", x.judge(0, 60), 100);
        due("far behind", x.judge(0, 84), 100);
        due("farthest", x.judge(0, MAX), 100);
        due("farthest less 22", x.judge(0, MAX - 22), 100);
        tellFree(x, 0, 23, 0);
        due("a row of 23", x.judge(0, 0), 123);
        tellFree(x, 0, 1, 0);
        due("a row of 1", x.judge(0, 0), 101);
        x.tape(0, 3, 0);
        due("a row of 0", x.judge(0, 0), 100);
        due("a row of 0, place 1", x.judge(0, 1), 100);
        says("(or the place is below 0, or the TAPE holds nothing)");
        x = sevenHeights();
        tellFree(x, 0, 60, 0);
        due("place -1", x.judge(0, -1), 100);
        due("the least place", x.judge(0, MIN), 100);
        due("it holds nothing", x.judge(1, 0), 100);
        due("it holds nothing, place -1", x.judge(1, -1), 100);
        x.tape(0, -1, 0);
        due("it holds nothing any more", x.judge(0, 0), 100);
        says("the first hour that is otherwise");
        for (int hour : new int[] {0, 1, 22, 23}) {
            tellFree(x, 5, 24, 0);
            x.item(5, hour, x.free(hour) ^ 1);
            due("hour " + hour, x.judge(5, 0), hour);
            x.item(5, hour, x.free(hour) | 1L << 32);
            due("hour " + hour + ", far bits", x.judge(5, 0), hour);
        }
        x = sevenHeights();
        tellFree(x, 5, 10, 0);
        x.item(5, 9, -1);
        due("ahead of the end", x.judge(5, 0), 9);
        x.item(5, 3, -1);
        due("the first", x.judge(5, 0), 3);
        says("CAST: it is no row of longs; NONE: tape");
        x = sevenHeights();
        for (int sort : new int[] {0, 1, 2, 4}) {
            x.tape(2, sort, 60);
            due("sort " + sort, x.judge(2, 0), CAST);
            due("sort " + sort + ", place -1", x.judge(2, -1), CAST);
            due("sort " + sort + ", place 60", x.judge(2, 60), CAST);
            x.tape(2, sort, 0);
            due("sort " + sort + " of 0", x.judge(2, 0), CAST);
        }
        for (int t : beyond(0, 5)) due("judge(" + t + ", 0)", x.judge(t, 0), NONE);
        says("JUDGED by what is free now");
        AirByYard y = new AirByYard();
        tellFree(y, 0, 24, 0);
        y.bird(BIRD, 0, 0, 1, 23, 1);
        due("a bird came", y.judge(0, 0), 23);
        y.evict(0, true);
        due("it is out", y.judge(0, 0), NOBODY);
    }

    private static void imageOfNone() {
        says("THE IMAGE is taken: how many BIRDS there are: none, 7");
        AirByYard x = new AirByYard();
        due("none", x.image(), 0);
        for (int b = 0; b < 7; b++) {
            x.bird(b, b, b, b + 1, b, b + 1);
            due("of " + (b + 1), x.image(), b + 1);
            due("undo", x.undo(), b + 1);
        }
        says("STATE: there is none");
        x = new AirByYard();
        due("a new one", x.undo(), STATE);
        x.bird(BIRD, 0, 0, 1, 0, 1);
        due("still none", x.undo(), STATE);
        due("birds stay", x.count(0), 1);
    }

    private static void imageOfAll() {
        says("All is as THE IMAGE: BIRDS with all that is theirs, DAY, SEEN, the LEASES, the BOOK, which ESTUARY holds");
        AirByYard x = seven(TOLD, 1, 3);
        for (int b = 0; b < 7; b++) {
            for (int part = 0; part < 4; part++) x.row(b, part, (b + part) % 10);
        }
        x.pass(2);
        x.see(3, 14, true, 20);
        x.see(4, 9, true, 1);
        for (int r = 0; r < 6; r++) x.lease(r, 9, r);
        for (int r = 0; r < 8; r++) x.book(r % 7, x.of(r % 7, 6) + r / 7);
        x.image();
        for (int b = 0; b < 7; b++) {
            for (int what = 0; what < 5; what++) x.set(b, what, 1);
            x.row(b, 2, 9);
            x.evict(b, b % 2 == 0);
        }
        x.pass(9);
        x.see(-1, 0, true, 0);
        x.see(9, 9, true, 9);
        x.lease(-1, 0, 0);
        x.book(-1, 0);
        read(x, "gain 8;top 2");
        due("undo", x.undo(), 7);
        for (int b = 0; b < 7; b++) {
            int[] want = {TOLD, b, b, 1, b, 3, 94, 0, b, (b + (b + 2) % 10) % 24};
            for (int what = 0; what < want.length; what++) due("of(" + b + ", " + what + ")", x.of(b, what), want[what]);
            for (int part = 0; part < 4; part++) due("row of " + b, x.row(b, part, 0), (b + part) % 10);
        }
        int[] told = {2, 0, 10, 0, 240 - 21, 0, 21};
        for (int what = 0; what < 7; what++) due("told(" + what + ")", x.told(what), told[what]);
        int[] count = {7, 1, 2, 6, 8, 0, 0};
        for (int what = 0; what < 7; what++) due("count(" + what + ")", x.count(what), count[what]);
        due("the book", x.looked(), 7);
        due("a ninth row", x.book(0, 0), FULL);
        due("a seventh lease", x.lease(0, 0, 0), FULL);
        says("All is as THE IMAGE: what was SEEN, with its DAYS");
        x = new AirByYard();
        x.bird(LATE, 0, 3, 1, 7, 1);
        x.see(3, 8, true, 1);
        x.image();
        x.see(-1, 0, true, 0);
        x.see(3, 8, true, 2);
        due("otherwise", x.can(0, 0), 0);
        x.undo();
        due("as it was", x.can(0, 0), 1);
        x.see(-1, 0, true, 0);
        x.see(3, 8, false, 1);
        x.undo();
        due("as it was", x.can(0, 1), 3);
        says("THE IMAGE stays as it was taken, however often all is as it was");
        x.set(0, 0, 9);
        due("undo", x.undo(), 1);
        due("low", x.of(0, 2), 3);
        x.set(0, 0, 8);
        due("undo", x.undo(), 1);
        due("low", x.of(0, 2), 3);
    }

    /** BIRDS that came behind THE IMAGE are gone with undo(), and nothing of theirs is asked. */
    private static void fewerAgain() {
        says("undo: how many BIRDS; those that came since are none");
        AirByYard x = new AirByYard();
        x.image();
        AirByYard y = new AirByYard();
        y.image();
        for (int b = 0; b < 7; b++) x.bird(b == 6 ? TOLD : BIRD, 9, 0, 10, 0, 24);
        due("undo", x.undo(), 0);
        String look = Witness.look(y);
        same("all of it", Witness.look(x), look);
        x = new AirByYard();
        x.bird(BIRD, 0, 0, 1, 0, 1);
        x.image();
        for (int b = 1; b < 7; b++) x.bird(TOLD, 9, 0, 10, 0, 24);
        for (int part = 0; part < 4; part++) x.row(1, part, 9);
        x.evict(2, true);
        due("undo", x.undo(), 1);
        due("of(1, 0)", x.of(1, 0), NONE);
        due("held", x.held(0, 0), 1);
        due("free", x.told(4), 239);
        due("crowded", x.told(5), 0);
        due("rent", x.told(6), 1);
        due("who is out", x.told(3), 0);
        due("worst", x.worst(), NOBODY);
        due("on", x.on(3, 0), 0);
        due("on", x.on(3, 1), 1);
        due("let", x.let(0), 1);
        due("whoEvict", x.whoEvict(), 0);
        due("ways", x.ways(9) > 0 ? 1 : 0, 1);
        due("lower", x.lower(0, 1), 0);
        due("mean", x.mean(0), 1);
        due("leased", x.leased(0), 0);
        due("leased", x.leased(1), 1);
        x.see(5, 5, false, 0);
        due("can", x.can(0, 0), 10);
        due("the next", x.bird(TOLD, 1, 2, 3, 4, 5), 1);
        int[] want = {TOLD, 1, 2, 3, 4, 5, 100, 0, 2, 4};
        for (int what = 0; what < want.length; what++) due("of(1, " + what + ")", x.of(1, what), want[what]);
        for (int part = 0; part < 4; part++) due("its row", x.row(1, part, 0), 0);
        due("the one behind it", x.bird(BIRD, 0, 0, 1, 0, 1), 2);
        due("isn't out", x.of(2, 7), 0);
        due("takes", x.set(2, 4, 0), 100);
    }

    private static void estuariesOfTheImage() {
        says("THE IMAGE: which ESTUARY holds");
        AirByYard x = new AirByYard();
        x.image();
        for (int e = 0; e < 6; e++) read(x, "gain " + (e + 1) + ";top " + (e + 1));
        x.undo();
        due("none", x.told(1), 0);
        due("none", x.told(2), 10);
        due("there are 6", x.count(1), 6);
        due("a seventh", read(x, "gain 9"), FULL);
        x = with("gain 5");
        read(x, "gain 6");
        x.image();
        read(x, "gain 7");
        feed(x, "gain 8");
        x.undo();
        due("the second", x.told(1), 6);
        due("THE TEXT stays", x.count(5), 6);
        due("the next", x.estuary(), 3);
        due("the next", x.told(1), 8);
        says("THE IMAGE has no TAPES and no TRACE");
        x.bird(BIRD, 0, 0, 1, 0, 1);
        x.image();
        x.tape(0, 3, 1);
        x.item(0, 0, 7);
        x.act(0, 2, 1);
        x.undo();
        due("a tape", x.read(0, 0), 7);
        due("a trace", x.count(6), 3);
    }

    private static void wrapping() {
        says("ACTS of a BIRD with x (wrapping)");
        AirByYard x = new AirByYard();
        int[] v = {9, 8, 7, 6, 5, 4, 3};
        for (int kind = 0; kind < 7; kind++) x.bird(kind, v[kind], 0, 1, 0, 1);
        for (int n : new int[] {MAX, MAX - 1, MAX - 6, MIN, MIN + 1, MIN + 9, MAX / 3, MAX / 3 + 1, MAX / 2 + 1, -1, 0, 1}) {
            due("bird, flies " + n, x.act(0, 0, n), n);
            due("bird, sings " + n, x.act(0, 1, n), n - 9);
            due("bird, tells " + n, x.act(0, 2, n), (n - 9) * 2);
            int singer = n + 1 - 8 ^ 6;
            due("singer, flies " + n, x.act(1, 0, n), n + 1);
            due("singer, sings " + n, x.act(1, 1, n), singer);
            due("singer, tells " + n, x.act(1, 2, n), singer * 2);
            due("high, flies " + n, x.act(2, 0, n), n * 3 + 2);
            due("high, sings " + n, x.act(2, 1, n), n * 3 + 2 - 7);
            due("high, tells " + n, x.act(2, 2, n), (n * 3 + 2 - 7) * 2);
            due("late, flies " + n, x.act(3, 0, n), n + 3);
            due("late, sings " + n, x.act(3, 1, n), n + 3 - 6);
            due("late, tells " + n, x.act(3, 2, n), (n + 3 - 6) * 2 + 1 + 3 - 6);
            int lark = -(n + 1 + 4) - 5 ^ 6;
            due("lark, flies " + n, x.act(4, 0, n), -(n + 4));
            due("lark, sings " + n, x.act(4, 1, n), lark);
            due("lark, tells " + n, x.act(4, 2, n), lark * 2);
            due("hawk, flies " + n, x.act(5, 0, n), n * 3 + 5);
            due("hawk, sings " + n, x.act(5, 1, n), n * 3 + 5 - 4);
            due("hawk, tells " + n, x.act(5, 2, n), ((n - 5) * 3 + 5 - 4) * 2);
            int told = (n + 6 ^ 3) - 3 + 2 + 6;
            due("told, flies " + n, x.act(6, 0, n), n + 6 ^ 3);
            due("told, sings " + n, x.act(6, 1, n), told);
            due("told, tells " + n, x.act(6, 2, n), told * 2 + (1 + 6 ^ 3) - 3 + 2 + 6);
        }
        says("0, and no TRACE then: no such BIRD, act");
        for (int b : beyond(0, 6)) noAct(x, b, 0);
        for (int act : beyond(0, 2)) noAct(x, 0, act);
        noAct(new AirByYard(), 0, 0);
    }

    private static void noAct(AirByYard x, int bird, int act) {
        x.act(0, 2, 5);
        due("act(" + bird + ", " + act + ", 5)", x.act(bird, act, 5), 0);
        due("how many bodies", x.count(6), 0);
        for (int i = 0; i < 3; i++) due("trace(" + i + ")", x.trace(i), NONE);
    }

    private static void traces() {
        says("THE TRACE's i-th body. NONE");
        AirByYard x = new AirByYard();
        for (int i : new int[] {0, 1, 19, 20, -1, MIN, MAX}) due("none, trace(" + i + ")", x.trace(i), NONE);
        for (int kind = 0; kind < 7; kind++) x.bird(kind, 0, 0, 1, 0, 1);
        x.act(6, 2, 0);
        int[] longest = {40, 12, 70, 11, 71, 10, 10, 70, 11, 71, 10, 10};
        due("the most that run", x.count(6), 12);
        for (int i = 0; i < 12; i++) due("trace(" + i + ")", x.trace(i), longest[i]);
        for (int i : new int[] {12, 13, 19, 20, 21, -1, MIN, MAX}) due("trace(" + i + ")", x.trace(i), NONE);
        x.act(0, 0, 0);
        due("the latest", x.trace(0), 10);
        due("nothing of those before", x.trace(1), NONE);
        due("how many", x.count(6), 1);
    }

    private static void kinds() {
        says("A BIRD taken for one of KIND k (0 .. 6), or one under that. BAD: k; NOTHING: no such BIRD; CAST");
        AirByYard x = new AirByYard();
        int[][] above = {{0}, {1, 0}, {2, 0}, {3, 0}, {4, 1, 0}, {5, 2, 0}, {6, 3, 0}};
        for (int kind = 0; kind < 7; kind++) x.bird(kind, 0, 0, 1, 0, 1);
        for (int kind = 0; kind < 7; kind++) {
            int bits = 0;
            for (int k : above[kind]) bits |= 1 << k;
            for (int k = 0; k < 7; k++) due(kind + " for " + k, x.taken(kind, k), (bits >> k & 1) != 0 ? kind : CAST);
            for (int k : beyond(0, 6)) due(kind + " for " + k, x.taken(kind, k), BAD);
        }
        for (int b : beyond(0, 6)) {
            due("taken(" + b + ", 0)", x.taken(b, 0), NOTHING);
            due("taken(" + b + ", 6)", x.taken(b, 6), NOTHING);
            due("taken(" + b + ", 7)", x.taken(b, 7), BAD);
        }
    }

    private static void counts() {
        says("How many: BAD");
        AirByYard x = Witness.full();
        int[] most = {7, 5, 5, 6, 8, 100, 12};
        for (int what = 0; what < 7; what++) due("count(" + what + ")", x.count(what), most[what]);
        x.estuary();
        due("estuaries", x.count(1), 6);
        due("bytes", x.count(5), 0);
        for (int what : beyond(0, 6)) due("count(" + what + ")", x.count(what), BAD);
    }

    private static void rowsOf0And60() {
        says("TAPES 0 .. 5; a row of n (0 .. 60) of a sort, all 0. NONE: tape; BAD: sort, n above 60; SIZE");
        AirByYard x = new AirByYard();
        for (int t = 0; t < 6; t++) {
            for (int sort = 0; sort < 5; sort++) {
                due("a row of 0", x.tape(t, sort, 0), 1);
                due("its first", x.read(t, 0), NO);
                due("its first", x.item(t, 0, 1), PLACE);
                due("a row of 60", x.tape(t, sort, 60), 1);
                due("its last", x.item(t, 59, 1), 1);
                due("its last", x.read(t, 59), 1);
                due("behind its last", x.item(t, 60, 1), PLACE);
                due("behind its last", x.read(t, 60), NO);
                due("a row of 61", x.tape(t, sort, 61), BAD);
                due("a row of the most", x.tape(t, sort, MAX), BAD);
                due("a row of -1", x.tape(t, sort, -1), SIZE);
                due("a row of the least", x.tape(t, sort, MIN), SIZE);
                due("its last", x.read(t, 59), 1);
                due("a row of 60 again", x.tape(t, sort, 60), 1);
                due("its last", x.read(t, 59), 0);
            }
        }
        AirByYard y = new AirByYard();
        for (int sort : new int[] {-2, 5, MIN, MAX}) {
            due("sort " + sort, y.tape(0, sort, 1), BAD);
            due("sort " + sort + ", n -1", y.tape(0, sort, -1), BAD);
        }
        for (int t : beyond(0, 5)) {
            due("tape " + t, y.tape(t, 3, 1), NONE);
            due("tape " + t, y.tape(t, 9, -1), NONE);
            due("tape " + t, y.tape(t, -1, 0), NONE);
        }
        due("still nothing", y.item(0, 0, 1), NOTHING);
        says("or holds nothing (sort -1: n does not matter): 1");
        for (int n : new int[] {0, 1, 60, 61, -1, MIN, MAX}) {
            y.tape(0, 3, 60);
            due("nothing of " + n, y.tape(0, -1, n), 1);
            due("read", y.read(0, 0), NO);
            due("item", y.item(0, 0, 1), NOTHING);
            due("nothing again", y.tape(0, -1, n), 1);
        }
        says("all 0");
        y.tape(0, 3, 3);
        for (int i = 0; i < 3; i++) y.item(0, i, 9);
        y.tape(0, 2, 5);
        for (int i = 0; i < 5; i++) due("item " + i, y.read(0, i), 0);
        y.item(0, 4, 9);
        y.tape(0, 2, 2);
        y.tape(0, 2, 5);
        due("item 4", y.read(0, 4), 0);
    }

    private static void itemsOfEachSort() {
        says("Item i becomes v (its lowest bits, as many as an item has; booleans: whether v is not 0)");
        long[] told = {0, 1, -1, 2, 127, 128, 129, 255, 256, -128, -129, 32767, 32768, 65535, 65536, -32768, -32769,
            MAX, MAX + 1L, 0xFFFFFFFFL, 1L << 32, MIN, MIN - 1L, Long.MAX_VALUE, Long.MIN_VALUE, Long.MIN_VALUE + 1};
        AirByYard x = new AirByYard();
        for (int sort = 0; sort < 5; sort++) x.tape(sort, sort, 1);
        for (long v : told) {
            long[] want = {(byte) v, (short) v, (int) v, v, v != 0 ? 1 : 0};
            for (int sort = 0; sort < 5; sort++) {
                due("item of sort " + sort + ", " + v, x.item(sort, 0, v), 1);
                due("read of sort " + sort + ", " + v, x.read(sort, 0), want[sort]);
            }
        }
    }

    private static void lastPlaces() {
        says("item: NONE; NOTHING; PLACE");
        AirByYard x = new AirByYard();
        x.tape(5, 3, 2);
        due("its last", x.item(5, 1, 7), 1);
        for (int i : new int[] {2, 3, 59, 60, -1, MIN, MAX}) {
            due("item(5, " + i + ")", x.item(5, i, 7), PLACE);
            due("item(4, " + i + ")", x.item(4, i, 7), NOTHING);
            due("item(6, " + i + ")", x.item(6, i, 7), NONE);
        }
        for (int t : beyond(0, 5)) due("item(" + t + ", 0)", x.item(t, 0, 7), NONE);
    }

    private static void placesRead() {
        says("Item i of a TAPE. NO: no such TAPE, nothing there, no such place");
        AirByYard x = new AirByYard();
        x.tape(0, 3, 2);
        x.item(0, 0, 5);
        x.item(0, 1, Long.MIN_VALUE + 1);
        due("the first", x.read(0, 0), 5);
        due("the last", x.read(0, 1), Long.MIN_VALUE + 1);
        for (int i : new int[] {2, 3, 59, 60, -1, MIN, MAX}) due("read(0, " + i + ")", x.read(0, i), NO);
        for (int i : new int[] {0, 1, -1}) due("read(1, " + i + ")", x.read(1, i), NO);
        for (int t : beyond(0, 5)) due("read(" + t + ", 0)", x.read(t, 0), NO);
    }

    private static String items(AirByYard x, int tape, int n) {
        StringBuilder s = new StringBuilder();
        for (int i = 0; i < n; i++) s.append(x.read(tape, i)).append(' ');
        return s.toString();
    }

    /** A row of 1, 2, 3 and so on. */
    private static void counting(AirByYard x, int tape, int sort, int n) {
        x.tape(tape, sort, n);
        for (int i = 0; i < n; i++) x.item(tape, i, i + 1);
    }

    private static void shifts() {
        says("n items come to another one (or the same), as they all were before: n");
        AirByYard x = new AirByYard();
        counting(x, 0, 3, 60);
        x.tape(1, 3, 60);
        due("all 60", x.shift(0, 0, 1, 0, 60), 60);
        same("to another", items(x, 1, 60), items(x, 0, 60));
        due("the same, to where they are", x.shift(0, 0, 0, 0, 60), 60);
        due("59 up", x.shift(0, 0, 0, 1, 59), 59);
        due("the first", x.read(0, 0), 1);
        due("the second", x.read(0, 1), 1);
        due("the last", x.read(0, 59), 59);
        due("59 down", x.shift(0, 1, 0, 0, 59), 59);
        due("the first", x.read(0, 0), 1);
        due("the last but one", x.read(0, 58), 59);
        due("the last", x.read(0, 59), 59);
        due("the last to the first", x.shift(1, 59, 0, 0, 1), 1);
        due("the first", x.read(0, 0), 60);
        due("the first to the last", x.shift(0, 0, 1, 59, 1), 1);
        due("the last", x.read(1, 59), 60);
        says("n 0 is none, at either's end too");
        due("at both ends", x.shift(0, 60, 1, 60, 0), 0);
        x.tape(2, 3, 0);
        due("of a row of 0", x.shift(2, 0, 2, 0, 0), 0);
        due("to a row of 0", x.shift(0, 60, 2, 0, 0), 0);
        due("from a row of 0", x.shift(2, 0, 0, 60, 0), 0);
        due("one of a row of 0", x.shift(2, 0, 0, 0, 1), PLACE);
        due("one to a row of 0", x.shift(0, 0, 2, 0, 1), PLACE);
        says("of each sort");
        for (int sort = 0; sort < 5; sort++) {
            counting(x, 3, sort, 4);
            counting(x, 4, sort, 3);
            due("sort " + sort, x.shift(3, 2, 4, 0, 2), 2);
            same("sort " + sort, items(x, 4, 3), sort == 4 ? "1 1 1 " : "3 4 3 ");
        }
        says("NONE: tapes; NOTHING; CAST: of unlike sorts");
        for (int a = 0; a < 5; a++) {
            for (int b = 0; b < 5; b++) {
                x.tape(3, a, 1);
                x.tape(4, b, 1);
                due("sorts " + a + " and " + b, x.shift(3, 0, 4, 0, 1), a == b ? 1 : CAST);
                due("sorts " + a + " and " + b + ", beyond", x.shift(3, 1, 4, 0, 1), a == b ? PLACE : CAST);
            }
        }
        due("nothing", x.shift(5, 9, 0, 0, 1), NOTHING);
        due("nothing", x.shift(0, 9, 5, 0, -1), NOTHING);
        due("nothing and nothing", x.shift(5, 0, 5, 0, 0), NOTHING);
        for (int t : beyond(0, 5)) {
            due("shift(" + t + ", ..)", x.shift(t, 0, 5, 0, 1), NONE);
            due("shift(.., " + t + ", ..)", x.shift(5, 0, t, 0, 1), NONE);
        }
        says("PLACE: n, i or j is below 0, or beyond either's end");
        counting(x, 0, 2, 5);
        counting(x, 1, 2, 3);
        int[][] beyond = {{-1, 0, 1}, {0, -1, 1}, {0, 0, -1}, {0, 0, 4}, {0, 1, 3}, {3, 0, 3}, {5, 0, 1}, {6, 0, 0}, {0, 4, 0},
            {0, 3, 1}, {MAX, 0, 1}, {0, MAX, 1}, {0, 0, MAX}, {1, 0, MAX}, {0, 1, MAX}, {MAX, MAX, MAX}, {MIN, 0, 1},
            {0, MIN, 1}, {0, 0, MIN}, {5, 3, MIN}, {MIN, MIN, MIN}, {MAX, 0, MIN}, {2, 1, -1}};
        for (int[] p : beyond) {
            due("shift(0, " + p[0] + ", 1, " + p[1] + ", " + p[2] + ")", x.shift(0, p[0], 1, p[1], p[2]), PLACE);
        }
        same("the refused", items(x, 0, 5) + items(x, 1, 3), "1 2 3 4 5 1 2 3 ");
        due("to both ends", x.shift(0, 2, 1, 0, 3), 3);
    }
}
