/**
 * Promises 10 to 26 (the air, days, what is best, what was seen, odds): a test of its own for each
 * sentence that names a boundary: too small, too large, empty, full, wrapping.
 */
final class BoundariesOfAirTest extends Due {
    public static void main(String[] args) {
        promise(10); heights();
        promise(11); freeAtAnHour();
        promise(12); clashes();
        promise(13); worst();
        promise(14); purses(); days();
        promise(15); on(); beyond9999();
        promise(16); empty();
        promise(17); lower();
        promise(18); sooner();
        promise(19); let();
        promise(20); whoEvict();
        promise(21); ways();
        promise(22); outs();
        promise(23); fiveSeen();
        promise(24); can();
        promise(25); odds();
        promise(26); mean();
        end("BoundariesOfAirTest");
    }

    // ---- the air

    private static void heights() {
        says("strips, each of a height (0 .. TOP less 1) and an hour (0 .. 23): NONE: no such height, hour");
        for (int top = 1; top <= 10; top++) {
            AirByYard x = with("top " + top);
            x.bird(LARK, 0, 0, 1, 0, 24);
            due("the highest of " + top, x.held(top - 1, 0), 1);
            due("the highest of " + top, x.held(top - 1, 23), 1);
            due("above it", x.held(top, 0), NONE);
            due("below all", x.held(-1, 0), NONE);
            due("hour 24", x.held(0, 24), NONE);
            due("hour -1", x.held(0, -1), NONE);
        }
        for (int n : beyond(0, 9)) due("height " + n, new AirByYard().held(n, 0), NONE);
        for (int n : beyond(0, 23)) due("hour " + n, new AirByYard().held(0, n), NONE);
        says("HELD: by whom, as bits: nobody, all 7");
        AirByYard x = seven(BIRD, 10, 24);
        due("all", x.held(9, 23), 127);
        due("nobody", new AirByYard().held(9, 23), 0);
        x.evict(6, true);
        due("but the last", x.held(0, 0), 63);
    }

    private static void freeAtAnHour() {
        says("FREE at an hour: of which heights, as bits; NONE");
        due("all", new AirByYard().free(0), 1023);
        due("all", new AirByYard().free(23), 1023);
        due("all of 1", with("top 1").free(0), 1);
        due("none", seven(BIRD, 10, 24).free(23), 0);
        AirByYard x = new AirByYard();
        x.bird(BIRD, 0, 9, 1, 23, 2);
        due("but the highest", x.free(23), 511);
        due("but the highest", x.free(0), 511);
        due("all", x.free(1), 1023);
        due("all", x.free(22), 1023);
        for (int n : beyond(0, 23)) due("free(" + n + ")", x.free(n), NONE);
        says("one that is OUT holds nothing");
        x.evict(0, true);
        due("all", x.free(23), 1023);
    }

    private static void clashes() {
        says("CLASH of two: how many strips both hold: none, all; NONE; BAD: one is both");
        AirByYard x = new AirByYard();
        x.bird(BIRD, 0, 0, 10, 0, 24);
        x.bird(LARK, 0, 0, 1, 0, 24);
        x.bird(BIRD, 0, 9, 1, 23, 1);
        x.bird(HAWK, 0, 9, 1, 23, 1);
        due("all", x.clash(0, 1), 240);
        due("one", x.clash(0, 2), 1);
        due("one", x.clash(2, 1), 1);
        due("none", x.clash(3, 0), 0);
        due("beyond", x.clash(0, 4), NONE);
        due("beyond, both", x.clash(4, 4), NONE);
        due("both", x.clash(3, 3), BAD);
        x.evict(2, true);
        due("one that is out", x.clash(0, 2), 0);
        due("one that is out", x.clash(2, 0), 0);
        due("both are one that is out", x.clash(2, 2), BAD);
        says("CLASH behind 23");
        x = new AirByYard();
        x.bird(BIRD, 0, 0, 1, 22, 4);
        x.bird(BIRD, 0, 0, 1, 23, 24);
        x.bird(BIRD, 0, 0, 1, 1, 22);
        due("all of the first", x.clash(0, 1), 4);
        due("its last and its first", x.clash(0, 2), 2);
    }

    private static void worst() {
        says("WORST: -5: nobody's is above 0");
        due("no birds", new AirByYard().worst(), NOBODY);
        AirByYard x = seven(BIRD, 1, 24);
        due("7 apart", x.worst(), NOBODY);
        says("WORST: a CLASH of 1 is above 0");
        x.set(5, 0, 6);
        x.set(5, 3, 1);
        due("5 and 6", x.worst(), 56);
        says("10 times the lesser and the greater number; of several the first");
        x = seven(BIRD, 10, 24);
        due("all the same", x.worst(), 1);
        for (int b = 0; b < 5; b++) x.evict(b, true);
        due("the last two", x.worst(), 56);
        x.evict(5, true);
        due("one", x.worst(), NOBODY);
        x.evict(0, false);
        due("0 and 6", x.worst(), 6);
        says("of several the first: 12 ahead of 34, 34 if that is greater");
        x = new AirByYard();
        x.bird(BIRD, 0, 0, 1, 0, 1);
        x.bird(BIRD, 0, 2, 1, 0, 4);
        x.bird(BIRD, 0, 2, 1, 0, 4);
        x.bird(BIRD, 0, 4, 1, 0, 4);
        x.bird(BIRD, 0, 4, 1, 0, 4);
        due("12", x.worst(), 12);
        x.set(1, 3, 3);
        due("34", x.worst(), 34);
    }

    // ---- days

    private static void purse(String call, int ahead, String text, int hours, int behind, int out) {
        AirByYard x = with(text);
        x.bird(BIRD, 0, 0, 1, 0, hours);
        x.set(0, 4, ahead);
        due(call + ", asked", x.on(1, 10), behind);
        due(call + ", asked who is out", x.on(1, 0), out);
        x.pass(1);
        due(call, x.of(0, 6), behind);
        due(call + ", out", x.of(0, 7), out);
    }

    private static void purses() {
        says("if it would be below 0, it is 0, and that one is OUT");
        purse("1 is left", 11, "gain 0", 10, 1, 0);
        purse("0 is left", 10, "gain 0", 10, 0, 0);
        purse("1 too few", 9, "gain 0", 10, 0, 1);
        purse("far too few", 0, "dear 99 b=0", 24, 0, 1);
        purse("0 is left of the gain", 0, "gain 10", 10, 0, 0);
        purse("1 too few with the gain", 0, "gain 9", 10, 0, 1);
        says("(9999 at most)");
        purse("9999", 9999, "gain 10", 10, 9999, 0);
        purse("9998", 9998, "gain 11", 10, 9999, 0);
        purse("9998 and more", 9998, "gain 12", 10, 9999, 0);
        purse("9999 and 99", 9999, "gain 99", 1, 9999, 0);
        purse("9999 less 1", 9999, "gain 9", 10, 9998, 0);
        says("PURSE of each that is not OUT is GAIN more, and RENT less: of all 7, and not of one that is OUT");
        AirByYard x = with("gain 50");
        for (int b = 0; b < 7; b++) x.bird(BIRD, 0, b, 1, b, 1);
        x.evict(3, true);
        x.evict(6, true);
        x.pass(2);
        for (int b = 0; b < 7; b++) due("purse of " + b, x.of(b, 6), b == 3 || b == 6 ? 100 : 198);
        says("by how all is ahead of it");
        x = with("dear 9 d=0");
        x.bird(BIRD, 0, 0, 1, 0, 1);
        x.pass(1);
        due("by the price of day 0", x.of(0, 6), 90);
        x.pass(9);
        due("by that of days 1 to 9", x.of(0, 6), 81);
        x.pass(1);
        due("by that of day 10", x.of(0, 6), 71);
    }

    private static void days() {
        says("n DAYS (0 .. 60) go: DAY. BAD");
        takes("pass", 0, 60, n -> new AirByYard().pass(n), n -> n);
        says("STATE: it would be above 9999");
        AirByYard x = onDay(new AirByYard(), 9939);
        x.bird(BIRD, 0, 0, 1, 0, 1);
        x.image();
        due("to 9999", x.pass(60), 9999);
        due("its purse", x.of(0, 6), 40);
        due("none more", x.pass(0), 9999);
        due("one more", x.pass(1), STATE);
        due("its purse", x.of(0, 6), 40);
        due("61 more", x.pass(61), BAD);
        x.undo();
        x.pass(1);
        due("60 from 9940", x.pass(60), STATE);
        due("day", x.told(0), 9940);
        due("its purse", x.of(0, 6), 99);
        due("59 from 9940", x.pass(59), 9999);
    }

    private static void on() {
        AirByYard x = with("gain 1;dear 1 d=9");
        for (int b = 0; b < 7; b++) x.bird(b == 6 ? SINGER : BIRD, 0, b, 1, 0, b + 1);
        says("ON n DAYS (0 .. 60); NONE; BAD: n");
        takes("on(n, 0)", 0, 60, n -> x.on(n, 0), BoundariesOfAirTest::outBy);
        takes("on(n, 10)", 0, 60, n -> x.on(n, 10), n -> 100 - n / 10);
        for (int b = 0; b < 7; b++) {
            due("purse of " + b, x.on(0, 10 + b), 100);
            due("rent of " + b, x.on(0, 20 + b), b == 6 ? 3 : b + 1);
            due("rent of " + b + " on day 9", x.on(9, 20 + b), b == 6 ? 7 : 2 * (b + 1));
        }
        due("purse of a seventh", x.on(0, 17), NONE);
        due("rent of a seventh", x.on(0, 27), NONE);
        for (int what : new int[] {-1, 2, 9, 18, 19, 28, MIN, MAX}) due("on(0, " + what + ")", x.on(0, what), NONE);
        due("on(61, 2)", x.on(61, 2), NONE);
        due("on(-1, 17)", x.on(-1, 17), NONE);
        due("on(61, 10)", x.on(61, 10), BAD);
        due("on(-1, 20)", x.on(-1, 20), BAD);
        says("ON of a BIRD that isn't the first goes by its own number");
        AirByYard y = with("dear 4 b=2;gain 9;cheap 1 v=7");
        for (int b = 0; b < 3; b++) y.bird(BIRD, b == 1 ? 7 : 0, b, 1, 0, 10);
        due("0", y.on(2, 10), 98);
        due("1", y.on(2, 11), 118);
        due("2", y.on(2, 12), 18);
        due("rent of 1", y.on(2, 21), 0);
        due("rent of 2", y.on(2, 22), 50);
        due("out on 3", y.on(3, 0), 4);
        due("rent of all on 3", y.on(3, 1), 10);
        due("empty of 2", y.empty(2), 3);
        due("empty of 1", y.empty(1), NOBODY);
    }

    /** Who of the 7 in on() is OUT by then: each pays its LONG (the last: half) less 1 a day, twice on each 10th. */
    private static int outBy(int days) {
        int bits = 0;
        for (int b = 0; b < 7; b++) {
            int purse = 100;
            for (int d = 0; d < days; d++) {
                int rent = (b + 1) * (d % 10 == 9 ? 2 : 1);
                purse += 1 - (b == 6 ? rent / 2 : rent);
                if (purse < 0) {
                    bits |= 1 << b;
                    break;
                }
            }
        }
        return bits;
    }

    private static void beyond9999() {
        says("DAYS also beyond 9999");
        AirByYard x = onDay(with("dear 49 d=0;gain 3;dear 9 d=1"), 9999);
        x.bird(LATE, 0, 0, 1, 23, 1);
        x.bird(HAWK, 0, 0, 1, 22, 1);
        x.bird(TOLD, 0, 4, 1, 20, 1);
        for (int part = 0; part < 4; part++) x.row(2, part, part + 1);
        due("begins of a LATE on 9999", x.of(0, 9), 0);
        due("begins of a HAWK on 9999", x.of(1, 9), 22);
        due("begins of a TOLD on 9999", x.of(2, 9), 1);
        due("rent on 9999", x.on(0, 20), 1);
        due("rent on 10000", x.on(1, 20), 50);
        due("rent on 10001", x.on(2, 20), 10);
        due("rent on 10002", x.on(3, 1), 3);
        due("purse on 10000", x.on(1, 10), 102);
        due("purse on 10001", x.on(2, 10), 55);
        due("purse on 10059", x.on(60, 10), 0);
        due("out on 10059", x.on(60, 0), 7);
        due("empty", x.empty(1), 22);
        x.see(0, 23, true, 1);
        x.see(2, 23, true, 1);
        due("a LATE and a HAWK on 10000", x.can(0, 0), 1);
        due("a LATE and a HAWK on 10000", x.can(1, 1), 0);
        x.see(-1, 0, true, 0);
        x.see(0, 0, true, 2);
        x.see(2, 0, true, 2);
        x.see(6, 23, true, 2);
        due("a TOLD on 10001", x.can(2, 1), 6);
        due("none, as 6 isn't its LOW", x.can(0, 0), 0);
        x.see(-1, 0, true, 0);
        x.see(4, 21, true, 1);
        x.see(4, 23, true, 3);
        x.see(4, 21, true, 5);
        due("a TOLD on 10000, 10002 and 10004", x.can(2, 0), 1);
        due("a TOLD on 10000, 10002 and 10004", x.can(2, 1), 4);
        due("day is as it was", x.told(0), 9999);
    }

    private static void empty() {
        says("EMPTY of one: behind how many DAYS (0 .. 99) it is OUT (-5: not by then)");
        int[] purse = {0, 1, 2, 96, 97, 98, 99, 100, 9999}, days = {1, 2, 3, 97, 98, 99, NOBODY, NOBODY, NOBODY};
        AirByYard x = new AirByYard();
        x.bird(BIRD, 0, 0, 1, 0, 1);
        for (int i = 0; i < purse.length; i++) {
            x.set(0, 4, purse[i]);
            due("of a purse of " + purse[i], x.empty(0), days[i]);
        }
        x.evict(0, true);
        due("now", x.empty(0), 0);
        due("NONE", x.empty(1), NONE);
        for (int b : beyond(0, 6)) due("empty(" + b + ")", x.empty(b), NONE);
        says("EMPTY, SOONER, CAN of the last of 7");
        x = seven(BIRD, 1, 24);
        due("empty", x.empty(6), 5);
        due("sooner", x.sooner(6, 0), 0);
        due("can", x.can(6, 0), 10);
        says("EMPTY: never, if GAIN is RENT");
        x = with("gain 1");
        x.bird(BIRD, 0, 0, 1, 0, 1);
        x.set(0, 4, 0);
        due("of a purse of 0", x.empty(0), NOBODY);
        x = with("gain 99");
        x.bird(BIRD, 0, 0, 10, 0, 10);
        x.set(0, 4, 98);
        due("gain 1 less than rent", x.empty(0), 99);
        x.set(0, 4, 99);
        due("gain 1 less than rent", x.empty(0), NOBODY);
    }

    // ---- what is best

    private static void lower() {
        says("LOWER of one: the LOW (0 .. 9): of several the least; NONE");
        AirByYard x = new AirByYard();
        x.bird(BIRD, 0, 5, 1, 0, 24);
        due("nobody else", x.lower(0, 0), 0);
        due("nobody else", x.lower(0, 1), 0);
        x.bird(BIRD, 0, 0, 9, 0, 24);
        due("the highest alone", x.lower(0, 0), 9);
        due("the highest alone", x.lower(0, 1), 0);
        x.set(1, 1, 10);
        due("all are held", x.lower(0, 0), 0);
        due("all are held", x.lower(0, 1), 24);
        x.set(1, 3, 23);
        due("all but an hour", x.lower(0, 1), 23);
        x.set(0, 1, 10);
        due("fewest strips at the highest", x.lower(0, 0), 9);
        due("fewest strips at the highest", x.lower(0, 1), 23);
        read(x, "top 4");
        due("above all there is", x.lower(0, 0), 4);
        due("above all there is", x.lower(0, 1), 0);
        says("LOWER of a HIGH one: by its BOTTOM");
        x = new AirByYard();
        x.bird(HIGH, 0, 9, 1, 0, 1);
        x.bird(BIRD, 0, 0, 9, 0, 1);
        due("the highest", x.lower(0, 0), 7);
        x.set(1, 1, 10);
        due("above all there is", x.lower(0, 0), 8);
        says("LOWER of one that is OUT, or beside one that is OUT");
        x.set(0, 0, 0);
        x.evict(1, true);
        due("beside one", x.lower(0, 0), 0);
        x.evict(1, false);
        x.evict(0, true);
        due("itself", x.lower(0, 0), 0);
        due("itself", x.lower(0, 1), 0);
        for (int b : beyond(0, 6)) due("lower(" + b + ", 0)", x.lower(b, 0), NONE);
        for (int what : beyond(0, 1)) due("lower(0, " + what + ")", x.lower(0, what), NONE);
        says("LOWER: a strip that two others hold is one strip");
        x = seven(BIRD, 10, 24);
        due("beside six", x.lower(6, 1), 24);
        due("beside six", x.lower(0, 0), 9);
    }

    private static void sooner() {
        says("SOONER of one: the FROM (0 .. 23): of several the least; NONE");
        AirByYard x = new AirByYard();
        x.bird(BIRD, 0, 0, 1, 7, 1);
        due("nobody else", x.sooner(0, 0), 0);
        x.bird(BIRD, 0, 0, 1, 0, 23);
        due("the last alone", x.sooner(0, 0), 23);
        due("the last alone", x.sooner(0, 1), 0);
        x.set(1, 3, 24);
        due("all are held", x.sooner(0, 0), 0);
        due("all are held", x.sooner(0, 1), 1);
        x.set(1, 3, 22);
        x.set(1, 2, 1);
        x.set(0, 3, 2);
        due("behind 23", x.sooner(0, 0), 23);
        due("behind 23", x.sooner(0, 1), 0);
        x.set(0, 3, 24);
        due("all day", x.sooner(0, 0), 0);
        due("all day", x.sooner(0, 1), 22);
        says("SOONER of a LATE one on an odd day");
        x = new AirByYard();
        x.bird(LATE, 0, 0, 1, 7, 1);
        x.bird(BIRD, 0, 0, 1, 1, 23);
        x.pass(1);
        due("23 is 0", x.sooner(0, 0), 23);
        due("23 is 0", x.sooner(0, 1), 0);
        x.evict(0, true);
        due("itself out", x.sooner(0, 0), 0);
        for (int b : beyond(0, 6)) due("sooner(" + b + ", 0)", x.sooner(b, 0), NONE);
        for (int what : beyond(0, 1)) due("sooner(0, " + what + ")", x.sooner(0, what), NONE);
    }

    private static void let() {
        says("LET: of all sets: the empty one, all 7");
        AirByYard x = seven(BIRD, 1, 24);
        due("all", x.let(0), 127);
        due("all", x.let(1), 7 * 24);
        for (int b = 0; b < 7; b++) x.evict(b, true);
        due("all are out", x.let(0), 0);
        due("all are out", x.let(1), 0);
        says("LET: of several the least as bits");
        x = seven(BIRD, 10, 24);
        due("one of the same", x.let(0), 1);
        due("one of the same", x.let(1), 240);
        x.evict(0, true);
        due("one of the others", x.let(0), 2);
        x.set(6, 3, 23);
        for (int b = 1; b < 6; b++) x.evict(b, true);
        due("the last", x.let(0), 64);
        due("the last", x.let(1), 230);
        read(x, "cheap 1 b<9");
        due("nobody pays", x.let(0), 0);
        due("nobody pays", x.let(1), 0);
        says("LET: a SINGER who pays half of 1 is no more");
        x = new AirByYard();
        x.bird(SINGER, 0, 0, 1, 0, 1);
        due("0", x.let(0), 0);
        x.bird(BIRD, 0, 5, 1, 0, 1);
        due("the other", x.let(0), 2);
        for (int what : beyond(0, 1)) due("let(" + what + ")", x.let(what), NONE);
    }

    private static void whoEvict() {
        says("EVICT: the fewest: nobody, all but one");
        AirByYard x = seven(BIRD, 1, 24);
        due("nobody clashes", x.whoEvict(), 0);
        x = seven(BIRD, 10, 24);
        due("all but the last", x.whoEvict(), 63);
        x.evict(6, true);
        due("all but the last two", x.whoEvict(), 31);
        x.evict(0, true);
        due("too, but for the first", x.whoEvict(), 30);
        for (int b = 1; b < 5; b++) x.evict(b, true);
        due("one is left", x.whoEvict(), 0);
        x.evict(5, true);
        due("nobody is left", x.whoEvict(), 0);
        says("EVICT: of several sets the least as bits");
        x = new AirByYard();
        x.bird(BIRD, 0, 0, 1, 0, 1);
        x.bird(BIRD, 0, 0, 1, 0, 1);
        due("the first of two", x.whoEvict(), 1);
        x.bird(BIRD, 0, 2, 1, 0, 1);
        x.bird(BIRD, 0, 2, 1, 0, 1);
        due("the first of each two", x.whoEvict(), 5);
        x.bird(BIRD, 0, 0, 3, 0, 1);
        due("the first of each two, and the last", x.whoEvict(), 21);
    }

    private static void ways() {
        says("PASS: on that height at 0, and no more than one height up or down; NO: no such height");
        long[] all = new long[10];
        for (int h = 0; h < 10; h++) all[h] = 1;
        for (int hour = 1; hour < 24; hour++) {
            long[] next = new long[10];
            for (int h = 0; h < 10; h++) next[h] = (h > 0 ? all[h - 1] : 0) + all[h] + (h < 9 ? all[h + 1] : 0);
            all = next;
        }
        AirByYard x = new AirByYard();
        for (int h = 0; h < 10; h++) due("from " + h, x.ways(h), all[h]);
        for (int h : beyond(0, 9)) due("ways(" + h + ")", x.ways(h), NO);
        due("top 1", with("top 1").ways(0), 1);
        due("top 1", with("top 1").ways(1), NO);
        due("top 2", with("top 2").ways(0), 1L << 23);
        due("top 2", with("top 2").ways(1), 1L << 23);
        due("top 2", with("top 2").ways(2), NO);
        says("PASS: 0, if all of an hour is held, the first or the last, or that strip itself");
        for (int hour : new int[] {0, 1, 12, 22, 23}) {
            x = new AirByYard();
            x.bird(LARK, 0, 0, 1, hour, 1);
            due("a wall at " + hour, x.ways(5), 0);
            due("a wall at " + hour, x.outs(5), 0);
            x.set(0, 0, 1);
            due("height 0 alone at " + hour, x.ways(0) > 0 ? 1 : 0, 1);
            due("height 0 alone at " + hour, x.ways(9) > 0 ? 1 : 0, hour > 8 ? 1 : 0);
        }
        x = new AirByYard();
        x.bird(BIRD, 0, 5, 1, 0, 1);
        due("that strip", x.ways(5), 0);
        due("that strip", x.outs(5), 0);
        due("the one beside it", x.ways(4), all[4]);
        x.evict(0, true);
        due("one that is out", x.ways(5), all[5]);
    }

    private static void outs() {
        says("OUTS: on which heights it can be at 23, as bits; NONE");
        AirByYard x = new AirByYard();
        for (int h = 0; h < 10; h++) due("from " + h, x.outs(h), 1023);
        for (int h : beyond(0, 9)) due("outs(" + h + ")", x.outs(h), NONE);
        due("top 1", with("top 1").outs(0), 1);
        due("top 1", with("top 1").outs(1), NONE);
        x.bird(BIRD, 0, 1, 9, 22, 1);
        due("height 0 alone at 22", x.outs(9), 3);
        x.set(0, 2, 23);
        due("height 0 alone at 23", x.outs(9), 1);
        x.set(0, 0, 0);
        due("height 9 alone at 23", x.outs(0), 512);
        x.set(0, 2, 15);
        due("height 9 alone at 15", x.outs(0), 1022);
        x.set(0, 2, 9);
        due("9 up by 9", x.outs(0), 1023);
        x.set(0, 2, 8);
        due("9 up by 8", x.outs(0), 0);
        due("8 up by 8", x.outs(1), 1023);
    }

    // ---- seen, odds

    private static void fiveSeen() {
        says("SEEN: a height (0 .. 9), an hour, behind n DAYS (0 .. 20)");
        takes("see, height", 0, 9, n -> n == -1 ? BAD : new AirByYard().see(n, 0, true, 0), n -> 1);
        takes("see, hour", 0, 23, n -> new AirByYard().see(0, n, true, 0), n -> 1);
        takes("see, n", 0, 20, n -> new AirByYard().see(0, 0, true, n), n -> 1);
        due("height -2", new AirByYard().see(-2, 0, true, 0), BAD);
        says("SEEN: heights that there are not are told, too");
        due("height 9 of 1", with("top 1").see(9, 0, true, 0), 1);
        says("(5 at most) FULL: 5");
        AirByYard x = new AirByYard();
        for (int n = 1; n <= 5; n++) due("see", x.see(0, 0, false, 0), n);
        due("a sixth", x.see(0, 0, false, 0), FULL);
        due("a bad sixth", x.see(10, 0, false, 0), BAD);
        due("a bad sixth", x.see(0, 24, false, 0), BAD);
        due("a bad sixth", x.see(0, 0, false, 21), BAD);
        says("height -1: none then, 0, whatever the others are");
        due("none", x.see(-1, MIN, true, MAX), 0);
        due("none of none", x.see(-1, 0, false, 0), 0);
        due("how many", x.count(2), 0);
        for (int n = 1; n <= 5; n++) due("see again", x.see(9, 23, true, 20), n);
        due("a sixth again", x.see(9, 23, true, 20), FULL);
    }

    private static void can() {
        says("CAN: how many LOWS (0 .. 9); the least (-5: none); NONE");
        AirByYard x = new AirByYard();
        x.bird(BIRD, 0, 5, 1, 23, 1);
        due("nothing seen", x.can(0, 0), 10);
        due("nothing seen", x.can(0, 1), 0);
        x.see(9, 23, true, 0);
        due("the highest", x.can(0, 0), 1);
        due("the highest", x.can(0, 1), 9);
        x.see(0, 23, true, 0);
        due("both", x.can(0, 0), 0);
        due("both", x.can(0, 1), NOBODY);
        for (int b : beyond(0, 6)) due("can(" + b + ", 0)", x.can(b, 0), NONE);
        for (int what : beyond(0, 1)) due("can(0, " + what + ")", x.can(0, what), NONE);
        says("of a height that there is not: nobody does");
        x = with("top 3");
        x.bird(BIRD, 0, 0, 10, 0, 24);
        x.see(3, 0, true, 0);
        due("held", x.can(0, 0), 0);
        x.see(-1, 0, true, 0);
        x.see(3, 0, false, 0);
        x.see(9, 23, false, 20);
        due("not held", x.can(0, 0), 10);
        x.see(2, 0, true, 0);
        due("the highest", x.can(0, 0), 3);
        says("CAN behind 0 and 20 DAYS");
        x = new AirByYard();
        x.bird(BIRD, 0, 0, 2, 0, 1);
        x.set(0, 4, 39);
        x.see(1, 0, true, 0);
        due("now", x.can(0, 0), 2);
        x.see(1, 0, true, 20);
        due("behind 20, it pays 2 a day", x.can(0, 0), 0);
        x.see(-1, 0, true, 0);
        x.see(1, 0, true, 19);
        due("behind 19", x.can(0, 0), 2);
        x.see(1, 0, false, 20);
        due("and not behind 20", x.can(0, 1), 0);
        x.set(0, 4, 40);
        due("a purse of 40", x.can(0, 0), 0);
        says("CAN: whether anybody holds it: the others, too");
        x = new AirByYard();
        x.bird(BIRD, 0, 0, 1, 0, 1);
        for (int b = 1; b < 7; b++) x.bird(BIRD, 0, 8, 1, 0, 1);
        x.see(8, 0, true, 20);
        due("by others", x.can(0, 0), 10);
        x.see(8, 0, false, 20);
        due("both", x.can(0, 0), 0);
        x.see(-1, 0, true, 0);
        for (int n = 0; n < 5; n++) x.see(n, 0, false, n);
        due("none of five", x.can(0, 0), 5);
        due("none of five", x.can(0, 1), 5);
        says("n DAYS from now: going on from how all is");
        x = new AirByYard();
        x.bird(LATE, 0, 3, 1, 23, 1);
        x.see(3, 23, true, 20);
        due("on an even day", x.can(0, 0), 1);
        x.pass(1);
        due("on an odd day", x.can(0, 0), 0);
    }

    private static void odds(String call, AirByYard x, int hour, int above, int below) {
        due(call, x.odds(hour, 0), above);
        due(call + ", below the line", x.odds(hour, 1), below);
    }

    private static void odds() {
        says("ODDS: a fraction in lowest terms; NO");
        odds("all", new AirByYard(), 0, 1, 1);
        odds("all", new AirByYard(), 23, 1, 1);
        odds("none", seven(BIRD, 10, 24), 23, 0, 1);
        odds("all of 1", with("top 1"), 0, 1, 1);
        int[] above = {1, 9, 4, 7, 3, 1, 2, 3, 1, 1, 0}, below = {1, 10, 5, 10, 5, 2, 5, 10, 5, 10, 1};
        AirByYard x = new AirByYard();
        for (int tall = 1; tall <= 10; tall++) {
            if (tall == 1) x.bird(BIRD, 0, 0, tall, 23, 2); else x.set(0, 1, tall);
            odds(tall + " of 10", x, 0, above[tall], below[tall]);
            odds(tall + " of 10", x, 1, 1, 1);
        }
        for (int hour : beyond(0, 23)) due("odds(" + hour + ", 0)", x.odds(hour, 0), NO);
        for (int part : beyond(0, 1)) due("odds(0, " + part + ")", x.odds(0, part), NO);
        x = with("top 1");
        x.bird(BIRD, 0, 0, 1, 0, 1);
        odds("none of 1", x, 0, 0, 1);
    }

    private static void mean() {
        says("MEAN (NO: there are none)");
        AirByYard x = seven(BIRD, 1, 24);
        due("7", x.mean(0), 24);
        due("7", x.mean(1), 1);
        x.set(6, 3, 23);
        due("167 by 7", x.mean(0), 167);
        due("167 by 7", x.mean(1), 7);
        for (int b = 0; b < 6; b++) x.evict(b, true);
        due("one", x.mean(0), 23);
        due("one", x.mean(1), 1);
        x.set(6, 0, 9);
        read(x, "top 9");
        due("0 by 1", x.mean(0), 0);
        due("0 by 1", x.mean(1), 1);
        for (int part : beyond(0, 1)) due("mean(" + part + ")", x.mean(part), NO);
        x.evict(6, true);
        due("none", x.mean(0), NO);
        due("none", x.mean(1), NO);
        due("no birds", new AirByYard().mean(1), NO);
    }
}
