/**
 * Promises 1 to 9 (birds, estuaries, what is told of them): a test of its own for each
 * sentence that names a boundary: too small, too large, empty, full, wrapping.
 */
final class BoundariesOfBirdsTest extends Due {
    public static void main(String[] args) {
        promise(1); emptyAtFirst(); apart(); calls512();
        promise(2); leastAndGreatestBirds(); eighthBird();
        promise(3); bottoms(); beginnings(); hoursBehind23(); asFarAsThereAreStrips(); prices(); halves();
        promise(4); leastAndGreatestSet();
        promise(5); outAndNot();
        promise(6); rowsOfTheTold();
        promise(7); signs();
        promise(8); clauses(); gainsAndTops(); sixEstuaries();
        promise(9); noneAndAllTold();
        end("BoundariesOfBirdsTest");
    }

    // ---- birds, estuaries

    private static void emptyAtFirst() {
        AirByYard x = new AirByYard();
        says("A new object: no BIRDS");
        due("count(0)", x.count(0), 0);
        for (int b = 0; b < 7; b++) {
            for (int what = 0; what <= 12; what++) due("of(" + b + ", " + what + ")", x.of(b, what), NONE);
            due("taken(" + b + ", 0)", x.taken(b, 0), NOTHING);
        }
        for (int h = 0; h < 10; h++) due("held(" + h + ", 0)", x.held(h, 0), 0);
        int[] told = {0, 0, 10, 0, 240, 0, 0};
        for (int what = 0; what < 7; what++) due("told(" + what + ")", x.told(what), told[what]);
        due("worst()", x.worst(), NOBODY);
        due("on(60, 0)", x.on(60, 0), 0);
        due("on(60, 1)", x.on(60, 1), 0);
        due("let(0)", x.let(0), 0);
        due("let(1)", x.let(1), 0);
        due("whoEvict()", x.whoEvict(), 0);
        due("mean(0)", x.mean(0), NO);
        due("mean(1)", x.mean(1), NO);
        due("leased(0)", x.leased(0), 0);
        due("leased(1)", x.leased(1), 0);
        due("looked()", x.looked(), NOBODY);
        due("act(0, 0, 1)", x.act(0, 0, 1), 0);
        says("A new object: no ESTUARY; TAPES hold nothing at first");
        for (int what = 1; what <= 6; what++) due("count(" + what + ")", x.count(what), 0);
        for (int t = 0; t < 6; t++) {
            due("item(" + t + ", 0, 1)", x.item(t, 0, 1), NOTHING);
            due("read(" + t + ", 0)", x.read(t, 0), NO);
            due("judge(" + t + ", 0)", x.judge(t, 0), 100);
            due("shift to itself", x.shift(t, 0, t, 0, 0), NOTHING);
        }
        due("undo()", x.undo(), STATE);
    }

    private static void apart() {
        says("A new object: what another one was told isn't told to it");
        AirByYard full = Witness.full();
        String look = Witness.look(new AirByYard());
        AirByYard x = new AirByYard();
        Witness.look(full);
        Witness.full();
        same("another object", Witness.look(x), look);
    }

    private static void calls512() {
        says("An object is used for at most 512 calls");
        AirByYard x = new AirByYard();
        for (int b = 0; b < 7; b++) due("bird", x.bird(b, b, b, 1, b, 24), b);
        for (int n = 0; n < 126; n++) {
            due("image", x.image(), 7);
            due("undo", x.undo(), 7);
            due("tape", x.tape(n % 6, 3, 60), 1);
            due("act", x.act(6, 0, n), n + 6 ^ 6);
        }
        due("the 512th", x.told(6), 24 + 12 + 24 + 24 + 24 * 6 / 2 + 24 + 24);
        x = new AirByYard();
        for (int n = 0; n < 255; n++) {
            due("bytes", x.feed('g'), 1);
            due("a fault", x.estuary(), -11);
        }
        due("the 511th", x.count(1), 0);
        due("the 512th", x.feed('g'), 1);
    }

    private static void leastAndGreatestBirds() {
        says("KINDS 0 .. 6");
        for (int kind = 0; kind < 7; kind++) {
            AirByYard x = new AirByYard();
            due("bird of kind " + kind, x.bird(kind, 0, 0, 1, 0, 1), 0);
            due("its kind", x.of(0, 0), kind);
        }
        for (int kind : beyond(0, 6)) due("kind " + kind, new AirByYard().bird(kind, 0, 0, 1, 0, 1), NONE);
        says("a number v (0 .. 9)");
        takes("bird, v", 0, 9, n -> made(BIRD, n, 0, 1, 0, 1, 1), n -> n);
        says("LOW (0 .. 9)");
        takes("bird, low", 0, 9, n -> made(BIRD, 0, n, 1, 0, 1, 2), n -> n);
        says("TALL (1 .. 10)");
        takes("bird, tall", 1, 10, n -> made(BIRD, 0, 0, n, 0, 1, 3), n -> n);
        says("FROM (an hour, 0 .. 23)");
        takes("bird, from", 0, 23, n -> made(BIRD, 0, 0, 1, n, 1, 4), n -> n);
        says("LONG (1 .. 24 hours)");
        takes("bird, hours", 1, 24, n -> made(BIRD, 0, 0, 1, 0, n, 5), n -> n);
        says("a PURSE (100 at first); not OUT at first");
        due("purse", made(TOLD, 9, 9, 10, 23, 24, 6), 100);
        due("out", made(TOLD, 9, 9, 10, 23, 24, 7), 0);
    }

    /** What a new bird has, or what bird() answers if it refuses. */
    private static int made(int kind, int v, int low, int tall, int from, int hours, int what) {
        AirByYard x = new AirByYard();
        int bird = x.bird(kind, v, low, tall, from, hours);
        due("how many there are", x.count(0), bird == 0 ? 1 : 0);
        return bird == 0 ? x.of(0, what) : bird;
    }

    private static void eighthBird() {
        says("BIRDS 0 .. 6, as they come; FULL: 7");
        AirByYard x = new AirByYard();
        for (int b = 0; b < 7; b++) {
            due("bird " + b, x.bird(6 - b, b, b, b + 1, b, b + 1), b);
            due("how many", x.count(0), b + 1);
        }
        due("an eighth", x.bird(0, 0, 0, 1, 0, 1), FULL);
        due("an eighth of the greatest", x.bird(6, 9, 9, 10, 23, 24), FULL);
        for (int b = 0; b < 7; b++) due("kind of " + b, x.of(b, 0), 6 - b);
        due("of an eighth", x.of(7, 0), NONE);
        says("FULL: 7, whoever is OUT");
        x.evict(0, true);
        due("an eighth", x.bird(0, 0, 0, 1, 0, 1), FULL);
    }

    private static void bottoms() {
        says("BOTTOM of a BIRD: LOW; of HIGH, HAWK ones: 2 more");
        for (int kind = 0; kind < 7; kind++) {
            int more = kind == HIGH || kind == HAWK ? 2 : 0;
            due("the least bottom of " + kind, made(kind, 0, 0, 1, 0, 1, 8), more);
            due("the greatest bottom of " + kind, made(kind, 0, 9, 1, 0, 1, 8), 9 + more);
        }
    }

    private static int begins(int kind, int from, int day, int... row) {
        AirByYard x = new AirByYard();
        x.bird(kind, 0, 0, 1, from, 1);
        for (int part = 0; part < row.length; part++) x.row(0, part, row[part]);
        return onDay(x, day).of(0, 9);
    }

    private static void beginnings() {
        for (int kind : new int[] {BIRD, SINGER, HIGH, LARK}) {
            says("BEGINS: BIRD, SINGER, HIGH, LARK: FROM");
            due("on day 0", begins(kind, 0, 0), 0);
            due("on day 5", begins(kind, 23, 5), 23);
        }
        says("LATE: FROM, and 1 more, if DAY is odd (modulo 24)");
        due("22 on an odd day", begins(LATE, 22, 1), 23);
        due("23 on an odd day", begins(LATE, 23, 1), 0);
        due("23 on an even day", begins(LATE, 23, 2), 23);
        says("HAWK: FROM, and DAY modulo 3 more (modulo 24)");
        due("22 on day 2", begins(HAWK, 22, 2), 0);
        due("23 on day 1", begins(HAWK, 23, 1), 0);
        due("23 on day 2", begins(HAWK, 23, 2), 1);
        due("23 on day 3", begins(HAWK, 23, 3), 23);
        due("23 on day 5", begins(HAWK, 23, 5), 1);
        says("TOLD: as LATE, and its ROW at DAY modulo 4 more (modulo 24)");
        due("15 on day 2", begins(TOLD, 15, 2, 1, 2, 8, 9), 23);
        due("16 on day 2", begins(TOLD, 16, 2, 1, 2, 8, 9), 0);
        due("14 on day 3", begins(TOLD, 14, 3, 1, 2, 8, 9), 0);
        due("23 on day 3", begins(TOLD, 23, 3, 1, 2, 8, 9), 9);
        due("23 on day 4", begins(TOLD, 23, 4, 1, 2, 8, 9), 0);
        due("23 on day 5", begins(TOLD, 23, 5, 1, 2, 8, 9), 2);
        due("23 on day 7", begins(TOLD, 23, 7, 1, 2, 8, 9), 9);
    }

    private static int hoursHeld(int from, int hours) {
        AirByYard x = new AirByYard();
        x.bird(BIRD, 0, 4, 1, from, hours);
        int bits = 0;
        for (int hour = 0; hour < 24; hour++) bits |= x.held(4, hour) << hour;
        return bits;
    }

    private static void hoursBehind23() {
        says("in LONG hours from BEGINS on (behind 23 comes 0)");
        due("0 for 1", hoursHeld(0, 1), 1);
        due("0 for 23", hoursHeld(0, 23), (1 << 23) - 1);
        due("0 for 24", hoursHeld(0, 24), (1 << 24) - 1);
        due("23 for 1", hoursHeld(23, 1), 1 << 23);
        due("23 for 2", hoursHeld(23, 2), 1 << 23 | 1);
        due("22 for 2", hoursHeld(22, 2), 3 << 22);
        due("22 for 4", hoursHeld(22, 4), 3 << 22 | 3);
        due("23 for 23", hoursHeld(23, 23), (1 << 24) - 1 - (1 << 22));
        due("23 for 24", hoursHeld(23, 24), (1 << 24) - 1);
        due("12 for 13", hoursHeld(12, 13), 0xFFF001);
    }

    private static int strips(String text, int kind, int low, int tall, int hours) {
        AirByYard x = with(text);
        x.bird(kind, 0, low, tall, 23, hours);
        int free = x.told(4);
        due("strips and what is free", x.of(0, 11) + free, 24 * x.told(2));
        return x.of(0, 11);
    }

    private static void asFarAsThereAreStrips() {
        says("TALL heights from BOTTOM on, as far as there are such strips");
        due("all", strips("top 10", BIRD, 0, 10, 24), 240);
        due("one", strips("top 1", BIRD, 0, 10, 1), 1);
        due("to the highest", strips("top 10", BIRD, 9, 1, 3), 3);
        due("beyond the highest", strips("top 10", BIRD, 9, 2, 3), 3);
        due("far beyond the highest", strips("top 10", BIRD, 9, 10, 3), 3);
        due("TOP less 1", strips("top 4", BIRD, 3, 2, 3), 3);
        due("TOP itself", strips("top 4", BIRD, 4, 10, 3), 0);
        due("TOP 1", strips("top 1", BIRD, 1, 10, 24), 0);
        due("a HIGH one to the highest", strips("top 10", HIGH, 7, 1, 5), 5);
        due("a HIGH one above it", strips("top 10", HIGH, 8, 10, 5), 0);
        due("a HAWK far above it", strips("top 10", HAWK, 9, 10, 24), 0);
        due("a HAWK at TOP less 1", strips("top 3", HAWK, 0, 2, 5), 5);
        due("a HAWK at TOP", strips("top 2", HAWK, 0, 2, 5), 0);
        says("a LARK: all from BOTTOM on");
        due("all", strips("top 10", LARK, 0, 1, 24), 240);
        due("the highest alone", strips("top 10", LARK, 9, 1, 2), 2);
        due("TOP less 1", strips("top 6", LARK, 5, 10, 2), 2);
        due("TOP", strips("top 6", LARK, 6, 10, 2), 0);
    }

    private static int price(String text, int bird) {
        AirByYard x = with(text);
        for (int b = 0; b < 3; b++) x.bird(b + 3, b + 4, b + 5, 1, 10 * b, 1);
        return x.of(bird, 10);
    }

    private static void prices() {
        says("PRICE: 1, and dear, less cheap, together (0 at least)");
        due("no clause of it", price("gain 1", 0), 1);
        due("dear 0", price("dear 0 b<9", 0), 1);
        due("cheap 0", price("cheap 0 b<9", 0), 1);
        due("to 0", price("cheap 1 b<9", 0), 0);
        due("below 0", price("cheap 2 b<9", 0), 0);
        due("far below 0", price("cheap 99 b<9;cheap 99 b<9;dear 9 b<9", 0), 0);
        due("back from below 0", price("cheap 99 b<9;dear 99 b<9", 0), 1);
        due("more than 1", price("cheap 1 b<9;dear 1 b<9", 0), 1);
        due("the greatest", price("dear 99 b<9;dear 99 b<9;dear 99 b<9;dear 99 b<9;dear 99 b<9;dear 99 b<9;dear 99 b<9;"
            + "dear 99 b<9", 0), 1 + 8 * 99);
        says("E: T or T|E; T: F or F&T; F: !F, (E) or a TEST: each of two, of three");
        String[] is = {"b=0", "b=1", "(b=0)", "(b=1)", "!b=1", "!b=0", "!(b=1)", "(!b=0)"};
        for (int i = 0; i < is.length; i++) {
            for (int j = 0; j < is.length; j++) {
                boolean one = i % 2 == 0, other = j % 2 == 0;
                String and = is[i] + "&" + is[j], or = is[i] + "|" + is[j];
                due(and, price("dear 7 " + and, 0), one && other ? 8 : 1);
                due(or, price("dear 7 " + or, 0), one || other ? 8 : 1);
                due("b=0&(" + or + ")", price("dear 7 b=0&(" + or + ")", 0), one || other ? 8 : 1);
                due("b=1|(" + and + ")", price("dear 7 b=1|(" + and + ")", 0), one && other ? 8 : 1);
                due(and + "|b=1", price("dear 7 " + and + "|b=1", 0), one && other ? 8 : 1);
                due("b=1&" + or, price("dear 7 b=1&" + or, 0), other ? 8 : 1);
                due(or + "&b=1", price("dear 7 " + or + "&b=1", 0), one ? 8 : 1);
                due("b=0|" + and, price("dear 7 b=0|" + and, 0), 8);
            }
        }
        says("<, =, >: less, the same, greater");
        for (int b = 0; b < 3; b++) {
            due("b<1 of " + b, price("dear 7 b<1", b), b < 1 ? 8 : 1);
            due("b=1 of " + b, price("dear 7 b=1", b), b == 1 ? 8 : 1);
            due("b>1 of " + b, price("dear 7 b>1", b), b > 1 ? 8 : 1);
            due("k<4 of " + b, price("dear 7 k<4", b), b < 1 ? 8 : 1);
            due("k>4 of " + b, price("dear 7 k>4", b), b > 1 ? 8 : 1);
            due("v<5 of " + b, price("dear 7 v<5", b), b < 1 ? 8 : 1);
            due("v>5 of " + b, price("dear 7 v>5", b), b > 1 ? 8 : 1);
            due("l<6 of " + b, price("dear 7 l<6", b), b < 1 ? 8 : 1);
            due("l>6 of " + b, price("dear 7 l>6", b), b > 1 ? 8 : 1);
            due("f<10 of " + b, price("dear 7 f<10", b), b < 1 ? 8 : 1);
            due("f>10 of " + b, price("dear 7 f>10", b), b > 1 ? 8 : 1);
        }
        says("a number of 1 or 2 digits: 0, 00, 99");
        due("b<0", price("dear 7 b<0", 0), 1);
        due("b=0", price("dear 7 b=0", 0), 8);
        due("b=00", price("dear 7 b=00", 0), 8);
        due("b>0", price("dear 7 b>0", 0), 1);
        due("f<99", price("dear 7 f<99", 2), 8);
        due("f=20", price("dear 7 f=20", 2), 8);
        due("f>99", price("dear 7 f>99", 2), 1);
        says("d DAY modulo 10");
        for (int day : new int[] {0, 8, 9, 10, 11, 19, 20, 60, 9999}) {
            AirByYard x = with("dear 1 d=0;dear 2 d=1;dear 4 d=8;dear 8 d=9;dear 16 d>9");
            x.bird(BIRD, 0, 0, 1, 0, 1);
            int d = day % 10;
            due("price on day " + day, onDay(x, day).of(0, 10), 1 + (d == 0 ? 1 : d == 1 ? 2 : d == 8 ? 4 : d == 9 ? 8 : 0));
        }
        says("without one there are no CLAUSES");
        AirByYard x = new AirByYard();
        x.bird(BIRD, 0, 0, 1, 0, 1);
        due("price", x.of(0, 10), 1);
    }

    private static void halves() {
        says("RENT: STRIPS times PRICE; of SINGERS, LARKS the half of that (cut)");
        for (int kind = 0; kind < 7; kind++) {
            boolean half = kind == SINGER || kind == LARK;
            int low = kind == LARK ? 9 : 0;
            AirByYard x = new AirByYard();
            x.bird(kind, 0, low, 1, 0, 1);
            due("1 of " + kind, x.of(0, 12), half ? 0 : 1);
            x.set(0, 3, 3);
            due("3 of " + kind, x.of(0, 12), half ? 1 : 3);
            read(x, "dear 4 b=0");
            due("15 of " + kind, x.of(0, 12), half ? 7 : 15);
            read(x, "cheap 1 b=0");
            due("0 of " + kind, x.of(0, 12), 0);
        }
        AirByYard x = with("dear 99 b<9;dear 99 b<9;dear 99 b<9;dear 99 b<9;dear 99 b<9;dear 99 b<9;dear 99 b<9;dear 99 b<9");
        for (int b = 0; b < 7; b++) x.bird(b == 1 ? SINGER : BIRD, 0, 0, 10, 0, 24);
        due("the greatest", x.of(0, 12), 240 * 793);
        due("the half of the greatest", x.of(1, 12), 120 * 793);
        due("of all", x.told(6), 6 * 240 * 793 + 120 * 793);
    }

    private static void leastAndGreatestSet() {
        int[] least = {0, 1, 0, 1, 0}, most = {9, 10, 23, 24, 9999}, of = {2, 3, 4, 5, 6}, was = {4, 5, 6, 7, 100};
        for (int what = 0; what < 5; what++) {
            int w = what;
            says("set: what " + what + " becomes n: what it was; BAD");
            takes("set(0, " + what + ", n)", least[what], most[what], n -> setTo(w, n, of[w]), n -> was[w]);
            AirByYard x = new AirByYard();
            x.bird(BIRD, 3, 4, 5, 6, 7);
            x.set(0, what, most[what]);
            for (int other = 0; other < 5; other++) {
                due("what " + other, x.of(0, of[other]), other == what ? most[what] : was[other]);
            }
            due("the same again", x.set(0, what, most[what]), most[what]);
        }
        says("PURSE 0 isn't OUT");
        AirByYard x = new AirByYard();
        x.bird(BIRD, 0, 0, 1, 0, 1);
        x.set(0, 4, 0);
        due("out", x.of(0, 7), 0);
    }

    private static int setTo(int what, int n, int of) {
        AirByYard x = new AirByYard();
        x.bird(BIRD, 3, 4, 5, 6, 7);
        int was = x.of(0, of);
        int answer = x.set(0, what, n);
        due("what it is then", x.of(0, of), answer == BAD ? was : n);
        return answer;
    }

    private static void outAndNot() {
        says("evict: OUT, or not: whether it was");
        AirByYard x = seven(BIRD, 1, 24);
        for (int b = 0; b < 7; b++) {
            due("not, which it isn't", x.evict(b, false), 0);
            due("out", x.evict(b, true), 0);
            due("who is out", x.told(3), (2 << b) - 1);
            due("out again", x.evict(b, true), 1);
        }
        due("all is free", x.told(4), 240);
        due("rent of all", x.told(6), 0);
        for (int b = 0; b < 7; b++) due("not", x.evict(b, false), 1);
        due("who is out", x.told(3), 0);
        due("what is free", x.told(4), 72);
        says("one that was OUT with a PURSE of 0 and isn't any more goes on");
        x = with("gain 3");
        x.bird(BIRD, 0, 0, 1, 0, 4);
        x.set(0, 4, 0);
        x.pass(1);
        due("out", x.evict(0, false), 1);
        due("rent", x.of(0, 12), 4);
        due("empty", x.empty(0), 1);
        x.pass(1);
        due("out again", x.of(0, 7), 1);
        due("purse", x.of(0, 6), 0);
    }

    private static void rowsOfTheTold() {
        says("its ROW (four numbers 0 .. 9; 0 at first); NONE: part; BAD");
        for (int part = 0; part < 4; part++) {
            int p = part;
            takes("row(0, " + part + ", n)", 0, 9, n -> rowTo(p, n), n -> 0);
        }
        for (int part : beyond(0, 3)) due("part " + part, rowTo(part, 0), NONE);
        says("STATE: another KIND");
        for (int kind = 0; kind < 6; kind++) {
            AirByYard x = new AirByYard();
            x.bird(kind, 0, 0, 1, 0, 1);
            due("kind " + kind, x.row(0, 0, 0), STATE);
            due("kind " + kind, x.row(0, 3, 9), STATE);
            due("kind " + kind, x.row(0, 3, 10), BAD);
            due("kind " + kind, x.row(0, 4, 9), NONE);
            due("begins", x.of(0, 9), 0);
        }
    }

    private static int rowTo(int part, int n) {
        AirByYard x = new AirByYard();
        x.bird(TOLD, 0, 0, 1, 0, 1);
        int answer = x.row(0, part, n);
        if (answer == 0) {
            for (int p = 0; p < 4; p++) due("part " + p, x.row(0, p, 0), p == part ? n : 0);
        }
        return answer;
    }

    private static void signs() {
        says("a sign (0 .. 127) comes behind THE TEXT's: how many it has");
        takes("feed", 0, 127, n -> new AirByYard().feed(n), n -> 1);
        says("THE TEXT (bytes, 100 at most); FULL");
        AirByYard x = new AirByYard();
        for (int n = 1; n <= 100; n++) due("the sign " + n, x.feed(n % 128), n);
        due("the 101st", x.feed(0), FULL);
        due("the 101st", x.feed(127), FULL);
        due("a 101st that is no sign", x.feed(128), BAD);
        due("a 101st that is no sign", x.feed(-1), BAD);
        due("how many", x.count(5), 100);
        says("estuary: THE TEXT is empty then");
        due("its fault", x.estuary(), -10);
        due("how many", x.count(5), 0);
        due("the empty text", x.estuary(), -10);
        due("the first sign", x.feed('g'), 1);
    }

    private static void clauses() {
        says("CLAUSES, 1 to 10");
        AirByYard x = new AirByYard();
        due("none", x.estuary(), -10);
        due("1", read(x, "gain 1"), 0);
        due("9", read(x, "gain 1;gain 2;gain 3;gain 4;gain 5;gain 6;gain 7;gain 8;gain 9"), 1);
        due("10", read(x, "gain 1;gain 2;gain 3;gain 4;gain 5;gain 6;gain 7;gain 8;gain 9;gain 10"), 2);
        due("11", read(x, "gain 1;gain 2;gain 3;gain 4;gain 5;gain 6;gain 7;gain 8;gain 9;gain 10;gain 11"), -10 - 70);
        due("10 and ;", read(x, "gain 1;gain 2;gain 3;gain 4;gain 5;gain 6;gain 7;gain 8;gain 9;gain 10;"), -10 - 70);
        due("9 and ;", read(x, "gain 1;gain 2;gain 3;gain 4;gain 5;gain 6;gain 7;gain 8;gain 9;"), -10 - 63);
        due("the gain of the last", x.told(1), 10);
        says("10 CLAUSES of all sorts hold");
        x = with("dear 9 b=0;dear 9 b=0;dear 9 b=0;cheap 1 b=0;cheap 1 b=0;gain 5;gain 6;top 3;top 4;dear 9 b=0");
        x.bird(BIRD, 0, 0, 1, 0, 1);
        due("price", x.of(0, 10), 35);
        due("gain", x.told(1), 6);
        due("top", x.told(2), 4);
        says("an ESTUARY of 100 bytes, and one that has its FAULT at their end");
        due("100 bytes", read(x, Witness.LONGEST), 1);
        due("its top", x.told(2), 7);
        due("100 bytes, too early", read(x, Witness.LONGEST.substring(0, 94) + ";dear "), -10 - 100);
        due("too early", read(x, Witness.LONGEST.substring(0, 94) + ";dear"), -10 - 99);
        due("beyond 100 bytes", read(x, Witness.LONGEST + ";x"), 2);
        eachSign();
        nested();
    }

    /** That all signs but these are the FAULT behind a text, and these aren't. */
    private static void goesOn(String text, String signs) {
        for (int sign = 0; sign < 128; sign++) {
            AirByYard x = new AirByYard();
            feed(x, text);
            x.feed(sign);
            int answer = x.estuary();
            boolean good = signs.indexOf(sign) >= 0;
            boolean isSo = good ? answer == 0 || answer == -10 - text.length() - 1 : answer == -10 - text.length();
            if (!isSo) fail("sign " + sign + " behind '" + text + "' answered " + answer);
        }
    }

    private static void eachSign() {
        says("The FAULT: the place of the first byte with which none begins so");
        String digits = "0123456789", letters = "bkvlfd", part = letters + "!(";
        goesOn("", "dcgt");
        goesOn("d", "e");
        goesOn("de", "a");
        goesOn("dea", "r");
        goesOn("dear", " ");
        goesOn("dear ", digits);
        goesOn("dear 0", digits + " ");
        goesOn("dear 99", " ");
        goesOn("dear 7 ", part);
        goesOn("c", "h");
        goesOn("ch", "e");
        goesOn("che", "a");
        goesOn("chea", "p");
        goesOn("cheap", " ");
        goesOn("cheap ", digits);
        goesOn("cheap 9", digits + " ");
        goesOn("cheap 00", " ");
        goesOn("cheap 7 ", part);
        goesOn("g", "a");
        goesOn("ga", "i");
        goesOn("gai", "n");
        goesOn("gain", " ");
        goesOn("gain ", digits);
        goesOn("gain 9", digits + ";");
        goesOn("gain 09", ";");
        goesOn("t", "o");
        goesOn("to", "p");
        goesOn("top", " ");
        goesOn("top ", digits);
        goesOn("top 9", digits + ";");
        goesOn("top 90", ";");
        goesOn("top 90;", "dcgt");
        for (int i = 0; i < letters.length(); i++) goesOn("dear 1 " + letters.charAt(i), "<=>");
        goesOn("dear 1 b=", digits);
        goesOn("dear 1 k<", digits);
        goesOn("dear 1 v>", digits);
        goesOn("dear 1 l=0", digits + ";&|");
        goesOn("dear 1 f=99", ";&|");
        goesOn("dear 1 d=99&", part);
        goesOn("dear 1 d=99|", part);
        goesOn("dear 1 d=99;", "dcgt");
        goesOn("dear 1 !", part);
        goesOn("dear 1 (", part);
        goesOn("dear 1 (b=1", digits + "&|)");
        goesOn("dear 1 (b=11", "&|)");
        goesOn("dear 1 (b=11&", part);
        goesOn("dear 1 (b=11|", part);
        goesOn("dear 1 (b=11)", "&|;");
        goesOn("dear 1 ((b=11)", "&|)");
        goesOn("dear 1 !(b=11)", "&|;");
        goesOn("dear 1 (!b=11", "&|)");
        goesOn("gain 1;gain 1;gain 1;gain 1;gain 1;gain 1;gain 1;gain 1;gain 1;dear 11 b=11", "&|");
        goesOn("gain 1;gain 1;gain 1;gain 1;gain 1;gain 1;gain 1;gain 1;gain 1;dear 11 b=1", "&|" + digits);
        goesOn("gain 1;gain 1;gain 1;gain 1;gain 1;gain 1;gain 1;gain 1;gain 1;gain 11", "");
        says("The FAULT: the end of THE TEXT, if it ends too early");
        String whole = "dear 12 !(b=1|k<22)&v>3;cheap 1 l=2;gain 3;top 4";
        String wholeAhead = "";
        for (int n = 0; n < whole.length(); n++) {
            String text = whole.substring(0, n);
            boolean isWhole = Model.Grammar.isEstuary(text);
            due("estuary() of " + text, read(new AirByYard(), text), isWhole ? 0 : -10 - n);
            if (isWhole) wholeAhead += n + " ";
        }
        same("which of them are whole", wholeAhead, "19 23 35 42 ");
    }

    private static void nested() {
        says("A ( or ! within 4 others is none");
        AirByYard x = new AirByYard();
        due("4 !", read(x, "dear 1 !!!!b=1"), 0);
        due("4 (", read(x, "dear 1 ((((b=1))))"), 1);
        due("4 of both", read(x, "dear 1 !(!(b=1))|(!(!b=1))"), 2);
        due("4, and again 4", read(x, "dear 1 ((((b=1))))&!!!!b=1|((((b=1)|(b=1))))"), 3);
        due("4, and 3 others within the third", read(x, "dear 1 (((!b=1)&(b=1)|!b=1))"), 4);
        due("5 !", read(x, "dear 1 !!!!!b=1"), -10 - 11);
        due("5 (", read(x, "dear 1 (((((b=1)))))"), -10 - 11);
        due("! within 4 (", read(x, "dear 1 ((((!b=1))))"), -10 - 11);
        due("( within 4 !", read(x, "dear 1 !!!!(b=1)"), -10 - 11);
        due("of both", read(x, "dear 1 (!(!(b=1)))"), -10 - 11);
        due("the second F within 4", read(x, "dear 1 ((((b=1&!b=2))))"), -10 - 15);
        due("the second T within 4", read(x, "dear 1 ((((b=1|(b=2)))))"), -10 - 15);
        due("the second within 3, its second", read(x, "dear 1 (((b=1|((b=2)))))"), -10 - 15);
        due("behind a ) that ends them", read(x, "dear 1 ((((b=1)))&(!!!b=2))"), -10 - 21);
        goesOn("dear 1 ((((", "bkvlfd");
        goesOn("dear 1 !!!!", "bkvlfd");
        goesOn("dear 1 !!!", "bkvlfd!(");
        goesOn("dear 1 (((", "bkvlfd!(");
        says("4 deep they hold as told");
        x = with("dear 1 !!!!b=0;dear 2 !!!b=0;dear 4 ((((b=0))));dear 8 !(!!b=0);dear 16 (!((b=1|v=9)))");
        x.bird(BIRD, 9, 0, 1, 0, 1);
        x.bird(BIRD, 0, 0, 1, 0, 1);
        x.bird(BIRD, 0, 0, 1, 0, 1);
        due("of 0", x.of(0, 10), 1 + 1 + 4);
        due("of 1", x.of(1, 10), 1 + 2 + 8);
        due("of 2", x.of(2, 10), 1 + 2 + 8 + 16);
    }

    private static void gainsAndTops() {
        says("GAIN (0 without): the last n");
        due("without", with("top 5").told(1), 0);
        due("0", with("gain 0").told(1), 0);
        due("9", with("gain 9").told(1), 9);
        due("99", with("gain 99").told(1), 99);
        due("the last", with("gain 99;gain 0").told(1), 0);
        due("07", with("gain 07").told(1), 7);
        says("TOP (10 without; 1 if less, 10 if more): the last n");
        due("without", with("gain 5").told(2), 10);
        int[] n = {0, 1, 2, 9, 10, 11, 12, 99}, top = {1, 1, 2, 9, 10, 10, 10, 10};
        for (int i = 0; i < n.length; i++) due("top " + n[i], with("top " + n[i]).told(2), top[i]);
        due("the last, 0", with("top 9;top 0").told(2), 1);
        due("the last, 99", with("top 2;top 99").told(2), 10);
        says("-10 less the FAULT (the one that held holds)");
        AirByYard x = with("gain 7;top 3;dear 4 b=0");
        x.bird(BIRD, 0, 0, 1, 0, 1);
        due("a fault", read(x, "gain 1;top 9;dear 9 b=0;"), -34);
        due("a fault at its start", read(x, "?"), -10);
        due("an empty text", x.estuary(), -10);
        due("gain", x.told(1), 7);
        due("top", x.told(2), 3);
        due("price", x.of(0, 10), 5);
        due("count", x.count(1), 1);
        due("the next", read(x, "gain 2"), 1);
    }

    private static void sixEstuaries() {
        says("The newest ESTUARY holds (6 at most); FULL: there are 6 (THE TEXT stays)");
        AirByYard x = new AirByYard();
        for (int e = 0; e < 6; e++) {
            due("estuary " + e, read(x, "gain " + (e + 1)), e);
            due("its gain", x.told(1), e + 1);
            due("how many", x.count(1), e + 1);
        }
        due("a seventh, empty", x.estuary(), FULL);
        due("a seventh", read(x, "gain 9"), FULL);
        due("a seventh", x.estuary(), FULL);
        due("bytes", x.count(5), 6);
        due("the sixth holds", x.told(1), 6);
        due("a sign more", x.feed('x'), 7);
        due("a spoilt seventh", x.estuary(), FULL);
        due("bytes", x.count(5), 7);
        says("one with a FAULT is none of the 6");
        x = new AirByYard();
        for (int e = 0; e < 9; e++) due("a fault", read(x, "gain x"), -15);
        for (int e = 0; e < 6; e++) due("estuary " + e, read(x, "gain 5"), e);
    }

    private static void noneAndAllTold() {
        says("told: 7 BIRDS, all of the air");
        AirByYard x = seven(BIRD, 10, 24);
        int[] all = {0, 0, 10, 0, 0, 240, 7 * 240};
        for (int what = 0; what < 7; what++) due("told(" + what + ")", x.told(what), all[what]);
        x.pass(1);
        int[] out = {1, 0, 10, 127, 240, 0, 0};
        for (int what = 0; what < 7; what++) due("told(" + what + ") then", x.told(what), out[what]);
        says("CROWDED: how many strips two or more hold");
        x = new AirByYard();
        x.bird(BIRD, 0, 3, 1, 5, 1);
        due("one", x.told(5), 0);
        x.bird(BIRD, 0, 3, 1, 5, 1);
        due("two", x.told(5), 1);
        x.bird(BIRD, 0, 3, 1, 5, 1);
        due("three", x.told(5), 1);
        for (int b = 0; b < 4; b++) x.bird(BIRD, 0, 3, 1, 5, 1);
        due("seven", x.told(5), 1);
        says("told: NONE");
        for (int what : beyond(0, 6)) due("told(" + what + ")", x.told(what), NONE);
    }
}
