import java.util.function.Supplier;

/**
 * "What is answered so changes nothing; what is asked changes nothing": each refused call, with the answer that comes
 * first, to objects that have room and to full ones, and each call that asks; all that can be asked is the same behind it.
 */
final class RefusedTest extends Due {
    private static final Supplier<AirByYard> HALF = Witness::half, FULLEST = Witness::full;
    private static final String HALF_LOOK = Witness.look(Witness.half()), FULL_LOOK = Witness.look(Witness.full());

    interface Call { long to(AirByYard x, int n); }

    public static void main(String[] args) {
        witnesses();
        birds();
        sets();
        rows();
        texts();
        air();
        days();
        best();
        seen();
        leases();
        books();
        judged();
        images();
        actsAndKinds();
        tapes();
        items();
        shifts();
        asked();
        end("RefusedTest");
    }

    private static void changesNothing(String call, Supplier<AirByYard> made, String look, Call to, int n) {
        AirByYard x = made.get();
        to.to(x, n);
        same(call, Witness.look(x), look);
    }

    private static void refused(Supplier<AirByYard> made, String look, String call, long due, Call to, int... numbers) {
        for (int n : numbers) {
            String told = call.replace("#", "" + n);
            due(told, to.to(made.get(), n), due);
            changesNothing(told, made, look, to, n);
        }
    }

    /** One that has room: 4 birds (TOLD, HAWK, LARK, SINGER), tape 4 holds nothing, 5 a row of 0 shorts. */
    private static void half(String call, long due, Call to, int... numbers) {
        refused(HALF, HALF_LOOK, call, due, to, numbers);
    }

    /** A full one: 7 birds, a text of 100, 5 seen, 6 leases, 8 rows of a book, 60 items in every tape. */
    private static void full(String call, long due, Call to, int... numbers) {
        refused(FULLEST, FULL_LOOK, call, due, to, numbers);
    }

    private static void both(String call, long due, Call to, int... numbers) {
        half(call, due, to, numbers);
        full(call, due, to, numbers);
    }

    private static void witnesses() {
        says("what is looked at is as it was made");
        due("bytes", Witness.LONGEST.length(), 100);
        AirByYard x = Witness.full();
        int[] counts = {7, 5, 5, 6, 8, 100, 12};
        for (int what = 0; what < 7; what++) due("full count(" + what + ")", x.count(what), counts[what]);
        due("its text", x.estuary(), 5);
        x = Witness.half();
        counts = new int[] {4, 2, 3, 2, 2, 12, 6};
        for (int what = 0; what < 7; what++) due("half count(" + what + ")", x.count(what), counts[what]);
    }

    private static void birds() {
        promise(2);
        says("NONE: kind; BAD: v, low, tall, from, hours; FULL: 7");
        both("bird(#, 0, 0, 1, 0, 1)", NONE, (x, n) -> x.bird(n, 0, 0, 1, 0, 1), beyond(0, 6));
        both("bird(#, -1, -1, 0, -1, 0)", NONE, (x, n) -> x.bird(n, -1, -1, 0, -1, 0), -1, 7);
        both("bird(0, #, 0, 1, 0, 1)", BAD, (x, n) -> x.bird(0, n, 0, 1, 0, 1), beyond(0, 9));
        both("bird(1, 0, #, 1, 0, 1)", BAD, (x, n) -> x.bird(1, 0, n, 1, 0, 1), beyond(0, 9));
        both("bird(2, 0, 0, #, 0, 1)", BAD, (x, n) -> x.bird(2, 0, 0, n, 0, 1), beyond(1, 10));
        both("bird(3, 0, 0, 1, #, 1)", BAD, (x, n) -> x.bird(3, 0, 0, 1, n, 1), beyond(0, 23));
        both("bird(6, 0, 0, 1, 0, #)", BAD, (x, n) -> x.bird(6, 0, 0, 1, 0, n), beyond(1, 24));
        full("bird(#, 0, 0, 1, 0, 1)", FULL, (x, n) -> x.bird(n, 0, 0, 1, 0, 1), 0, 1, 2, 3, 4, 5, 6);
    }

    private static void sets() {
        promise(3);
        says("of: NONE");
        both("of(#, 0)", NONE, (x, n) -> x.of(n, 0), beyond(0, 6));
        half("of(#, 0)", NONE, (x, n) -> x.of(n, 0), 4, 6);
        both("of(0, #)", NONE, (x, n) -> x.of(0, n), beyond(0, 12));
        promise(4);
        says("set: NONE; BAD");
        both("set(#, 0, 0)", NONE, (x, n) -> x.set(n, 0, 0), beyond(0, 6));
        half("set(#, 0, 0)", NONE, (x, n) -> x.set(n, 0, 0), 4);
        both("set(#, 0, -1)", NONE, (x, n) -> x.set(n, 0, -1), -1, 7);
        both("set(0, #, 1)", NONE, (x, n) -> x.set(0, n, 1), beyond(0, 4));
        both("set(0, #, -1)", NONE, (x, n) -> x.set(0, n, -1), -1, 5);
        both("set(0, 0, #)", BAD, (x, n) -> x.set(0, 0, n), beyond(0, 9));
        both("set(1, 1, #)", BAD, (x, n) -> x.set(1, 1, n), beyond(1, 10));
        both("set(2, 2, #)", BAD, (x, n) -> x.set(2, 2, n), beyond(0, 23));
        both("set(3, 3, #)", BAD, (x, n) -> x.set(3, 3, n), beyond(1, 24));
        both("set(0, 4, #)", BAD, (x, n) -> x.set(0, 4, n), beyond(0, 9999));
        promise(5);
        says("evict: NONE");
        both("evict(#, true)", NONE, (x, n) -> x.evict(n, true), beyond(0, 6));
        both("evict(#, false)", NONE, (x, n) -> x.evict(n, false), beyond(0, 6));
        half("evict(#, true)", NONE, (x, n) -> x.evict(n, true), 4);
    }

    private static void rows() {
        promise(6);
        says("NONE: bird, part; BAD; STATE: another KIND");
        both("row(#, 0, 1)", NONE, (x, n) -> x.row(n, 0, 1), beyond(0, 6));
        half("row(#, 0, 1)", NONE, (x, n) -> x.row(n, 0, 1), 4, 6);
        both("row(#, 0, 10)", NONE, (x, n) -> x.row(n, 0, 10), -1, 7);
        half("row(0, #, 1)", NONE, (x, n) -> x.row(0, n, 1), beyond(0, 3));
        full("row(6, #, 1)", NONE, (x, n) -> x.row(6, n, 1), beyond(0, 3));
        both("row(1, #, 1), of another KIND", NONE, (x, n) -> x.row(1, n, 1), beyond(0, 3));
        both("row(1, #, 10), of another KIND", NONE, (x, n) -> x.row(1, n, 10), -1, 4);
        half("row(0, 3, #)", BAD, (x, n) -> x.row(0, 3, n), beyond(0, 9));
        full("row(6, 0, #)", BAD, (x, n) -> x.row(6, 0, n), beyond(0, 9));
        both("row(1, 0, #), of another KIND", BAD, (x, n) -> x.row(1, 0, n), beyond(0, 9));
        half("row(#, 0, 5), of another KIND", STATE, (x, n) -> x.row(n, 0, 5), 1, 2, 3);
        full("row(#, 3, 0), of another KIND", STATE, (x, n) -> x.row(n, 3, 0), 0, 1, 2, 3, 4, 5);
    }

    private static void texts() {
        promise(7);
        says("feed: BAD; FULL");
        both("feed(#)", BAD, (x, n) -> x.feed(n), beyond(0, 127));
        full("feed(#)", FULL, (x, n) -> x.feed(n), 0, 'a', ';', 127);
        promise(8);
        says("FULL: there are 6 (THE TEXT stays)");
        sixth("");
        sixth("gain 5");
        sixth("x");
        promise(9);
        says("told: NONE");
        both("told(#)", NONE, (x, n) -> x.told(n), beyond(0, 6));
    }

    private static AirByYard six(String text) {
        AirByYard x = Witness.half();
        x.estuary();
        for (int e = 0; e < 3; e++) read(x, "gain 3" + e);
        feed(x, text);
        return x;
    }

    private static void sixth(String text) {
        String look = Witness.look(six(text));
        refused(() -> six(text), look, "estuary() with the text '" + text + "'", FULL, (x, n) -> x.estuary(), 0);
        AirByYard x = six(text);
        due("estuary()", x.estuary(), FULL);
        due("bytes of the text", x.count(5), text.length());
        due("a sign behind them", x.feed('a'), text.length() + 1);
        due("the sixth holds", x.told(1), 32);
    }

    private static void air() {
        promise(10);
        says("held: NONE: no such height, hour");
        both("held(#, 0), TOP is 8", NONE, (x, n) -> x.held(n, 0), beyond(0, 7));
        both("held(0, #)", NONE, (x, n) -> x.held(0, n), beyond(0, 23));
        both("held(9, #)", NONE, (x, n) -> x.held(9, n), 0, 24);
        promise(11);
        says("free: NONE");
        both("free(#)", NONE, (x, n) -> x.free(n), beyond(0, 23));
        promise(12);
        says("clash: NONE; BAD: one is both");
        both("clash(#, 1)", NONE, (x, n) -> x.clash(n, 1), beyond(0, 6));
        both("clash(1, #)", NONE, (x, n) -> x.clash(1, n), beyond(0, 6));
        half("clash(#, 1)", NONE, (x, n) -> x.clash(n, 1), 4);
        half("clash(1, #)", NONE, (x, n) -> x.clash(1, n), 4);
        both("clash(#, #)", NONE, (x, n) -> x.clash(n, n), beyond(0, 6));
        half("clash(#, #)", BAD, (x, n) -> x.clash(n, n), 0, 1, 2, 3);
        full("clash(#, #)", BAD, (x, n) -> x.clash(n, n), 0, 1, 2, 3, 4, 5, 6);
    }

    private static AirByYard late(int day) {
        AirByYard x = new AirByYard();
        read(x, "gain 9;dear 1 d=3");
        x.bird(TOLD, 0, 0, 1, 22, 9);
        x.bird(LATE, 0, 0, 3, 22, 4);
        x.row(0, 3, 7);
        for (int d = 60; d <= day; d += 60) x.pass(60);
        x.pass(day % 60);
        return x;
    }

    private static void beyondLastDay(int day, int... days) {
        String look = Witness.look(late(day));
        refused(() -> late(day), look, "pass(#) on day " + day, STATE, (x, n) -> x.pass(n), days);
        refused(() -> late(day), look, "pass(#) on day " + day, BAD, (x, n) -> x.pass(n), beyond(0, 60));
    }

    private static void days() {
        promise(14);
        says("pass: BAD; STATE: it would be above 9999");
        both("pass(#)", BAD, (x, n) -> x.pass(n), beyond(0, 60));
        beyondLastDay(9999, 1, 2, 60);
        beyondLastDay(9998, 2, 60);
        beyondLastDay(9940, 60);
        promise(15);
        says("on: NONE; BAD: n");
        half("on(0, #)", NONE, (x, n) -> x.on(0, n), -1, 2, 9, 14, 19, 24, 26, 27, MIN, MAX);
        full("on(0, #)", NONE, (x, n) -> x.on(0, n), -1, 2, 9, 17, 18, 19, 27, 28, MIN, MAX);
        both("on(61, #)", NONE, (x, n) -> x.on(61, n), -1, 2, 9, 17, 27);
        both("on(-1, #)", NONE, (x, n) -> x.on(-1, n), -1, 2, 9, 17, 27);
        both("on(#, 0)", BAD, (x, n) -> x.on(n, 0), beyond(0, 60));
        both("on(#, 1)", BAD, (x, n) -> x.on(n, 1), beyond(0, 60));
        both("on(#, 13)", BAD, (x, n) -> x.on(n, 13), beyond(0, 60));
        both("on(#, 20)", BAD, (x, n) -> x.on(n, 20), beyond(0, 60));
        promise(16);
        says("empty: NONE");
        both("empty(#)", NONE, (x, n) -> x.empty(n), beyond(0, 6));
        half("empty(#)", NONE, (x, n) -> x.empty(n), 4);
    }

    private static void best() {
        promise(17);
        says("lower: NONE");
        both("lower(#, 0)", NONE, (x, n) -> x.lower(n, 0), beyond(0, 6));
        half("lower(#, 0)", NONE, (x, n) -> x.lower(n, 0), 4);
        both("lower(0, #)", NONE, (x, n) -> x.lower(0, n), beyond(0, 1));
        promise(18);
        says("sooner: NONE");
        both("sooner(#, 0)", NONE, (x, n) -> x.sooner(n, 0), beyond(0, 6));
        half("sooner(#, 0)", NONE, (x, n) -> x.sooner(n, 0), 4);
        both("sooner(0, #)", NONE, (x, n) -> x.sooner(0, n), beyond(0, 1));
        promise(19);
        says("let: NONE");
        both("let(#)", NONE, (x, n) -> x.let(n), beyond(0, 1));
        promise(21);
        says("ways: NO: no such height");
        both("ways(#), TOP is 8", NO, (x, n) -> x.ways(n), beyond(0, 7));
        promise(22);
        says("outs: NONE");
        both("outs(#), TOP is 8", NONE, (x, n) -> x.outs(n), beyond(0, 7));
    }

    private static void seen() {
        promise(23);
        says("see: BAD: height, hour, n; FULL: 5");
        both("see(#, 0, true, 0)", BAD, (x, n) -> x.see(n, 0, true, 0), -2, 10, MIN, MAX);
        both("see(0, #, false, 0)", BAD, (x, n) -> x.see(0, n, false, 0), beyond(0, 23));
        both("see(0, 0, true, #)", BAD, (x, n) -> x.see(0, 0, true, n), beyond(0, 20));
        full("see(#, 0, true, 0)", FULL, (x, n) -> x.see(n, 0, true, 0), 0, 5, 9);
        promise(24);
        says("can: NONE");
        both("can(#, 0)", NONE, (x, n) -> x.can(n, 0), beyond(0, 6));
        half("can(#, 0)", NONE, (x, n) -> x.can(n, 0), 4);
        both("can(0, #)", NONE, (x, n) -> x.can(0, n), beyond(0, 1));
        promise(25);
        says("odds: NO");
        both("odds(#, 0)", NO, (x, n) -> x.odds(n, 0), beyond(0, 23));
        both("odds(0, #)", NO, (x, n) -> x.odds(0, n), beyond(0, 1));
        promise(26);
        says("mean: NO");
        both("mean(#)", NO, (x, n) -> x.mean(n), beyond(0, 1));
    }

    private static void leases() {
        promise(27);
        says("lease: NONE; BAD: low, from; FULL: 6");
        both("lease(#, 0, 0)", NONE, (x, n) -> x.lease(n, 0, 0), -2, 7, MIN, MAX);
        half("lease(#, 0, 0)", NONE, (x, n) -> x.lease(n, 0, 0), 4);
        both("lease(#, -1, 24)", NONE, (x, n) -> x.lease(n, -1, 24), -2, 7);
        both("lease(0, #, 0)", BAD, (x, n) -> x.lease(0, n, 0), beyond(0, 9));
        both("lease(0, 0, #)", BAD, (x, n) -> x.lease(0, 0, n), beyond(0, 23));
        full("lease(#, 0, 0)", FULL, (x, n) -> x.lease(n, 0, 0), 0, 3, 6);
        promise(28);
        says("leased: NONE");
        both("leased(#)", NONE, (x, n) -> x.leased(n), beyond(0, 1));
    }

    private static void books() {
        promise(29);
        says("book: NONE; BAD: purse; FULL: 8");
        both("book(#, 0)", NONE, (x, n) -> x.book(n, 0), -2, 7, MIN, MAX);
        half("book(#, 0)", NONE, (x, n) -> x.book(n, 0), 4);
        both("book(#, -1)", NONE, (x, n) -> x.book(n, -1), -2, 7);
        both("book(0, #)", BAD, (x, n) -> x.book(0, n), beyond(0, 9999));
        full("book(#, 0)", FULL, (x, n) -> x.book(n, 0), 0, 3, 6);
    }

    private static void judged() {
        promise(31);
        says("judge: NONE: tape; CAST: it is no row of longs");
        both("judge(#, 0)", NONE, (x, n) -> x.judge(n, 0), beyond(0, 5));
        both("judge(#, -1)", NONE, (x, n) -> x.judge(n, -1), beyond(0, 5));
        both("judge(1, #), ints", CAST, (x, n) -> x.judge(1, n), 0, 3, 60, -1, MIN, MAX);
        both("judge(2, #), bytes", CAST, (x, n) -> x.judge(2, n), 0, -1, 99);
        both("judge(3, #), booleans", CAST, (x, n) -> x.judge(3, n), 0, -1, 99);
        both("judge(5, #), shorts", CAST, (x, n) -> x.judge(5, n), 0, -1, 99);
        both("judge(0, #)", 100, (x, n) -> x.judge(0, n), -1, 60, MIN, MAX);
        half("judge(4, #), it holds nothing", 100, (x, n) -> x.judge(4, n), 0, 1, -1, MIN, MAX);
    }

    private static void images() {
        promise(33);
        says("undo: STATE: there is none");
        String look = Witness.look(new AirByYard());
        refused(AirByYard::new, look, "undo()", STATE, (x, n) -> x.undo(), 0);
    }

    private static void actsAndKinds() {
        promise(34);
        says("act: 0, and no TRACE then: no such BIRD, act");
        both("act(#, 0, 5), and an act as before", 0, (x, n) -> thenTheSame(x, x.act(n, 0, 5)), beyond(0, 6));
        half("act(#, 0, 5), and an act as before", 0, (x, n) -> thenTheSame(x, x.act(n, 0, 5)), 4);
        both("act(0, #, 5), and an act as before", 0, (x, n) -> thenTheSame(x, x.act(0, n, 5)), beyond(0, 2));
        promise(35);
        says("trace: NONE");
        half("trace(#)", NONE, (x, n) -> x.trace(n), -1, 6, 19, 20, 21, MIN, MAX);
        full("trace(#)", NONE, (x, n) -> x.trace(n), -1, 12, 19, 20, 21, MIN, MAX);
        promise(36);
        says("taken: BAD: k; NOTHING: no such BIRD; CAST");
        both("taken(0, #)", BAD, (x, n) -> x.taken(0, n), beyond(0, 6));
        both("taken(7, #)", BAD, (x, n) -> x.taken(7, n), beyond(0, 6));
        both("taken(#, 0)", NOTHING, (x, n) -> x.taken(n, 0), beyond(0, 6));
        half("taken(#, 6)", NOTHING, (x, n) -> x.taken(n, 6), 4, 6);
        half("taken(0, #), a TOLD one", CAST, (x, n) -> x.taken(0, n), 1, 2, 4, 5);
        promise(37);
        says("count: BAD");
        both("count(#)", BAD, (x, n) -> x.count(n), beyond(0, 6));
    }

    /** The act that was the latest one when it was made, so that THE TRACE is the same, too. */
    private static long thenTheSame(AirByYard x, long answer) {
        if (x.count(6) != 0 || x.trace(0) != NONE) fail("there is a TRACE of no act");
        x.act(x.count(0) == 7 ? 6 : 2, 2, 5);
        return answer;
    }

    private static void tapes() {
        promise(38);
        says("tape: NONE: tape; BAD: sort, n above 60; SIZE");
        both("tape(#, 3, 1)", NONE, (x, n) -> x.tape(n, 3, 1), beyond(0, 5));
        both("tape(#, -1, 0)", NONE, (x, n) -> x.tape(n, -1, 0), beyond(0, 5));
        both("tape(#, 5, 61)", NONE, (x, n) -> x.tape(n, 5, 61), -1, 6);
        both("tape(#, 3, -1)", NONE, (x, n) -> x.tape(n, 3, -1), -1, 6);
        both("tape(0, #, 1)", BAD, (x, n) -> x.tape(0, n, 1), -2, 5, MIN, MAX);
        both("tape(1, #, -1)", BAD, (x, n) -> x.tape(1, n, -1), -2, 5);
        both("tape(#, 3, 61)", BAD, (x, n) -> x.tape(n, 3, 61), 0, 4, 5);
        both("tape(0, 3, #)", BAD, (x, n) -> x.tape(0, 3, n), 61, MAX);
        both("tape(0, 3, #)", SIZE, (x, n) -> x.tape(0, 3, n), -1, MIN);
        both("tape(#, 0, -1)", SIZE, (x, n) -> x.tape(n, 0, -1), 0, 1, 2, 3, 4, 5);
    }

    private static void items() {
        promise(39);
        says("item: NONE; NOTHING; PLACE");
        both("item(#, 0, 7)", NONE, (x, n) -> x.item(n, 0, 7), beyond(0, 5));
        both("item(#, -1, 7)", NONE, (x, n) -> x.item(n, -1, 7), beyond(0, 5));
        half("item(4, #, 7), it holds nothing", NOTHING, (x, n) -> x.item(4, n, 7), 0, 1, -1, 60, MIN, MAX);
        half("item(0, #, 7), of 3", PLACE, (x, n) -> x.item(0, n, 7), -1, 3, 4, 59, 60, MIN, MAX);
        half("item(5, #, 7), of 0", PLACE, (x, n) -> x.item(5, n, 7), -1, 0, 1, MIN, MAX);
        full("item(0, #, 7), of 60", PLACE, (x, n) -> x.item(0, n, 7), beyond(0, 59));
        promise(40);
        says("read: NO: no such TAPE, nothing there, no such place");
        both("read(#, 0)", NO, (x, n) -> x.read(n, 0), beyond(0, 5));
        half("read(4, #), it holds nothing", NO, (x, n) -> x.read(4, n), 0, 1, -1, MIN, MAX);
        half("read(0, #), of 3", NO, (x, n) -> x.read(0, n), -1, 3, 4, 59, 60, MIN, MAX);
        half("read(5, #), of 0", NO, (x, n) -> x.read(5, n), -1, 0, 1, MIN, MAX);
        full("read(5, #), of 60", NO, (x, n) -> x.read(5, n), beyond(0, 59));
    }

    private static void shifts() {
        promise(41);
        says("shift: NONE: tapes; NOTHING; CAST: of unlike sorts; PLACE: n, i or j is below 0, or beyond either's end");
        both("shift(#, 0, 0, 0, 1)", NONE, (x, n) -> x.shift(n, 0, 0, 0, 1), beyond(0, 5));
        both("shift(0, 0, #, 0, 1)", NONE, (x, n) -> x.shift(0, 0, n, 0, 1), beyond(0, 5));
        half("shift(#, 0, 4, 0, 1)", NONE, (x, n) -> x.shift(n, 0, 4, 0, 1), beyond(0, 5));
        half("shift(4, -1, #, -1, -1)", NONE, (x, n) -> x.shift(4, -1, n, -1, -1), beyond(0, 5));
        half("shift(4, #, 0, 0, 1), from nothing", NOTHING, (x, n) -> x.shift(4, n, 0, 0, 1), 0, -1, 60, MIN, MAX);
        half("shift(#, 0, 4, 0, 1), to nothing", NOTHING, (x, n) -> x.shift(n, 0, 4, 0, 1), 0, 1, 2, 3, 4, 5);
        half("shift(4, 0, #, 0, 0), none from nothing", NOTHING, (x, n) -> x.shift(4, 0, n, 0, 0), 0, 4);
        half("shift(0, 0, #, 0, 1), unlike", CAST, (x, n) -> x.shift(0, 0, n, 0, 1), 1, 2, 3, 5);
        full("shift(#, -1, 1, -1, -1), unlike", CAST, (x, n) -> x.shift(n, -1, 1, -1, -1), 0, 2, 3, 4, 5);
        full("shift(#, 0, 2, 0, 0), none, unlike", CAST, (x, n) -> x.shift(n, 0, 2, 0, 0), 0, 1, 3, 4, 5);
        full("shift(0, #, 4, 0, 1)", PLACE, (x, n) -> x.shift(0, n, 4, 0, 1), beyond(0, 59));
        full("shift(0, 0, 4, #, 1)", PLACE, (x, n) -> x.shift(0, 0, 4, n, 1), beyond(0, 59));
        full("shift(0, 0, 4, 0, #)", PLACE, (x, n) -> x.shift(0, 0, 4, 0, n), beyond(0, 60));
        full("shift(0, #, 4, 0, 0), none", PLACE, (x, n) -> x.shift(0, n, 4, 0, 0), beyond(0, 60));
        full("shift(0, 0, 4, #, 0), none", PLACE, (x, n) -> x.shift(0, 0, 4, n, 0), beyond(0, 60));
        full("shift(0, #, 4, 0, MAX)", PLACE, (x, n) -> x.shift(0, n, 4, 0, MAX), 0, 1, 60, MAX);
        full("shift(0, 0, 4, #, MAX)", PLACE, (x, n) -> x.shift(0, 0, 4, n, MAX), 0, 1, 60, MAX);
        full("shift(0, 1, 0, 0, #), the same", PLACE, (x, n) -> x.shift(0, 1, 0, 0, n), beyond(0, 59));
        full("shift(0, 0, 0, 1, #), the same", PLACE, (x, n) -> x.shift(0, 0, 0, 1, n), beyond(0, 59));
        half("shift(5, 0, 5, 0, #), of 0", PLACE, (x, n) -> x.shift(5, 0, 5, 0, n), beyond(0, 0));
        half("shift(1, #, 1, 0, 2), of 4", PLACE, (x, n) -> x.shift(1, n, 1, 0, 2), 3, 4, 5);
        half("shift(1, 0, 1, #, 2), of 4", PLACE, (x, n) -> x.shift(1, 0, 1, n, 2), 3, 4, 5);
    }

    private static void ask(String call, Call to, int... numbers) {
        for (int n : numbers) {
            changesNothing(call.replace("#", "" + n), HALF, HALF_LOOK, to, n);
            changesNothing(call.replace("#", "" + n), FULLEST, FULL_LOOK, to, n);
        }
    }

    private static void asked() {
        says("what is asked changes nothing");
        promise(3);
        for (int b = 0; b < 7; b++) ofAndSoOn(b);
        promise(9);
        ask("told(#)", (x, n) -> x.told(n), 0, 1, 2, 3, 4, 5, 6);
        promise(10);
        ask("held(#, 7)", (x, n) -> x.held(n, 7), 0, 2, 7);
        promise(11);
        ask("free(#)", (x, n) -> x.free(n), 0, 7, 23);
        promise(12);
        ask("clash(0, #)", (x, n) -> x.clash(0, n), 1, 2, 3);
        promise(13);
        ask("worst()", (x, n) -> x.worst(), 0);
        promise(15);
        ask("on(60, #)", (x, n) -> x.on(60, n), 0, 1, 10, 13, 16, 20, 23, 26);
        promise(19);
        ask("let(#)", (x, n) -> x.let(n), 0, 1);
        promise(20);
        ask("whoEvict()", (x, n) -> x.whoEvict(), 0);
        promise(21);
        ask("ways(#)", (x, n) -> x.ways(n), 0, 7);
        promise(22);
        ask("outs(#)", (x, n) -> x.outs(n), 0, 7);
        promise(25);
        ask("odds(7, #)", (x, n) -> x.odds(7, n), 0, 1);
        promise(26);
        ask("mean(#)", (x, n) -> x.mean(n), 0, 1);
        promise(28);
        ask("leased(#)", (x, n) -> x.leased(n), 0, 1);
        promise(30);
        ask("looked()", (x, n) -> x.looked(), 0);
        promise(31);
        ask("judge(0, #)", (x, n) -> x.judge(0, n), 0, 1, 36);
        promise(35);
        ask("trace(#)", (x, n) -> x.trace(n), 0, 5);
        promise(37);
        ask("count(#)", (x, n) -> x.count(n), 0, 1, 2, 3, 4, 5, 6);
        promise(40);
        ask("read(#, 0)", (x, n) -> x.read(n, 0), 0, 1, 2, 3, 4, 5);
        promise(14);
        ask("pass(#)", (x, n) -> x.pass(n), 0);
        promise(41);
        ask("shift(#, 0, #, 0, 0)", (x, n) -> x.shift(n, 0, n, 0, 0), 0, 5);
    }

    private static void ofAndSoOn(int b) {
        promise(3);
        ask("of(" + b + ", #)", (x, n) -> x.of(b, n), 0, 6, 8, 9, 10, 11, 12);
        promise(16);
        ask("empty(" + b + ")", (x, n) -> x.empty(b), 0);
        promise(17);
        ask("lower(" + b + ", #)", (x, n) -> x.lower(b, n), 0, 1);
        promise(18);
        ask("sooner(" + b + ", #)", (x, n) -> x.sooner(b, n), 0, 1);
        promise(24);
        ask("can(" + b + ", #)", (x, n) -> x.can(b, n), 0, 1);
        promise(36);
        ask("taken(" + b + ", #)", (x, n) -> x.taken(b, n), 0, 3, 6);
    }
}
