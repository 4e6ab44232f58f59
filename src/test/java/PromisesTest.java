/** Each promise of the document by hand: ordinary calls, the edges that it names, wrong ones. */
final class PromisesTest {
    private static final int NONE = -1, BAD = -2, STATE = -3, FULL = -4, NOBODY = -5;
    private static final int NOTHING = -11, CAST = -12, PLACE = -13, SIZE = -14;
    private static final long NO = Long.MIN_VALUE;
    private static final int BIRD = 0, SINGER = 1, HIGH = 2, LATE = 3, LARK = 4, HAWK = 5, TOLD = 6;
    private static int wrong = 0;
    private static int promise = 0;

    public static void main(String[] args) {
        promise = 0; constants();
        promise = 1; newObject();
        promise = 2; bird();
        promise = 3; of();
        promise = 4; set();
        promise = 5; evict();
        promise = 6; row();
        promise = 7; feed();
        promise = 8; estuary(); faults(); conditions();
        promise = 9; told();
        promise = 10; held();
        promise = 11; free();
        promise = 12; clash();
        promise = 13; worst();
        promise = 14; pass();
        promise = 15; on();
        promise = 16; empty();
        promise = 17; lower();
        promise = 18; sooner();
        promise = 19; let();
        promise = 20; whoEvict();
        promise = 21; ways();
        promise = 22; outs();
        promise = 23; see();
        promise = 24; can();
        promise = 25; odds();
        promise = 26; mean();
        promise = 27; lease();
        promise = 28; leased();
        promise = 29; book();
        promise = 30; looked();
        promise = 31; judge();
        promise = 32; image();
        promise = 33; undo();
        promise = 34; act();
        promise = 35; trace();
        promise = 36; taken();
        promise = 37; count();
        promise = 38; tape();
        promise = 39; item();
        promise = 40; read();
        promise = 41; shift();
        System.out.println("PromisesTest: " + (wrong == 0 ? "all answers are as due" : wrong + " answers are not as due"));
        if (wrong != 0) System.exit(1);
    }

    private static void due(String call, long got, long want) {
        if (got != want) {
            wrong++;
            System.out.println("promise " + promise + ": " + call + " answered " + got + ", due is " + want);
        }
    }

    private static int read(AirByYard x, String text) {
        for (int i = 0; i < text.length(); i++) x.feed(text.charAt(i));
        return x.estuary();
    }

    private static AirByYard with(String text) {
        AirByYard x = new AirByYard();
        due("estuary() of " + text, read(x, text), 0);
        return x;
    }

    private static void constants() {
        due("NONE", AirByYard.NONE, -1);
        due("BAD", AirByYard.BAD, -2);
        due("STATE", AirByYard.STATE, -3);
        due("FULL", AirByYard.FULL, -4);
        due("NO", AirByYard.NO, Long.MIN_VALUE);
    }

    private static void newObject() {
        AirByYard x = new AirByYard();
        for (int what = 0; what < 7; what++) due("count", x.count(what), 0);
        due("of", x.of(0, 0), NONE);
        due("told day", x.told(0), 0);
        due("told gain", x.told(1), 0);
        due("told top", x.told(2), 10);
        due("told free", x.told(4), 240);
        due("undo", x.undo(), STATE);
        for (int t = 0; t < 6; t++) due("item", x.item(t, 0, 1), NOTHING);
    }

    private static void bird() {
        AirByYard x = new AirByYard();
        due("kind -1", x.bird(-1, 0, 0, 1, 0, 1), NONE);
        due("kind 7, all else bad", x.bird(7, -1, -1, 0, -1, 0), NONE);
        due("v -1", x.bird(0, -1, 0, 1, 0, 1), BAD);
        due("v 10", x.bird(0, 10, 0, 1, 0, 1), BAD);
        due("low -1", x.bird(0, 0, -1, 1, 0, 1), BAD);
        due("low 10", x.bird(0, 0, 10, 1, 0, 1), BAD);
        due("tall 0", x.bird(0, 0, 0, 0, 0, 1), BAD);
        due("tall 11", x.bird(0, 0, 0, 11, 0, 1), BAD);
        due("from -1", x.bird(0, 0, 0, 1, -1, 1), BAD);
        due("from 24", x.bird(0, 0, 0, 1, 24, 1), BAD);
        due("hours 0", x.bird(0, 0, 0, 1, 0, 0), BAD);
        due("hours 25", x.bird(0, 0, 0, 1, 0, 25), BAD);
        due("count", x.count(0), 0);
        for (int b = 0; b < 7; b++) due("bird", x.bird(b, 9, 9, 10, 23, 24), b);
        due("the eighth", x.bird(0, 0, 0, 1, 0, 1), FULL);
        due("an eighth with a bad kind", x.bird(7, 0, 0, 1, 0, 1), NONE);
        due("an eighth with a bad v", x.bird(0, 10, 0, 1, 0, 1), BAD);
        due("count", x.count(0), 7);
    }

    private static void of() {
        AirByYard x = with("dear 3 b=2|k=5;top 8");
        x.bird(BIRD, 6, 2, 3, 22, 5);
        x.bird(SINGER, 5, 4, 3, 8, 5);
        x.bird(HIGH, 4, 3, 4, 20, 9);
        x.bird(LATE, 3, 0, 2, 23, 3);
        x.bird(LARK, 2, 6, 1, 10, 5);
        x.bird(HAWK, 1, 6, 3, 23, 24);
        x.bird(TOLD, 0, 7, 2, 20, 1);
        x.row(6, 3, 5);
        x.row(6, 0, 9);
        all(x, 0, 0, 6, 2, 3, 22, 5, 100, 0, 2, 22, 1, 15, 15);
        all(x, 1, 1, 5, 4, 3, 8, 5, 100, 0, 4, 8, 1, 15, 7);
        all(x, 2, 2, 4, 3, 4, 20, 9, 100, 0, 5, 20, 4, 27, 108);
        all(x, 3, 3, 3, 0, 2, 23, 3, 100, 0, 0, 23, 1, 6, 6);
        all(x, 4, 4, 2, 6, 1, 10, 5, 100, 0, 6, 10, 1, 10, 5);
        all(x, 5, 5, 1, 6, 3, 23, 24, 100, 0, 8, 23, 4, 0, 0);
        all(x, 6, 6, 0, 7, 2, 20, 1, 100, 0, 7, 5, 1, 1, 1);
        begins(x, 3, 23, 0, 23, 0, 23, 0);
        begins(x, 5, 23, 0, 1, 23, 0, 1);
        begins(x, 6, 5, 21, 20, 2, 5, 21);
        x = new AirByYard();
        x.bird(HAWK, 0, 9, 10, 0, 1);
        x.bird(BIRD, 0, 9, 10, 0, 24);
        x.bird(LARK, 0, 0, 1, 5, 24);
        due("bottom above all", x.of(0, 8), 11);
        due("strips above all", x.of(0, 11), 0);
        due("strips of the highest", x.of(1, 11), 24);
        due("strips of a column", x.of(2, 11), 240);
        x.evict(2, true);
        due("out", x.of(2, 7), 1);
        due("price of one that is out", x.of(2, 10), 1);
        due("strips of one that is out", x.of(2, 11), 0);
        due("rent of one that is out", x.of(2, 12), 0);
        due("no bird", x.of(3, 0), NONE);
        due("bird -1", x.of(-1, 0), NONE);
        due("what 13", x.of(0, 13), NONE);
        due("what -1", x.of(0, -1), NONE);
    }

    private static void all(AirByYard x, int bird, int... want) {
        for (int what = 0; what < want.length; what++) due("of(" + bird + ", " + what + ")", x.of(bird, what), want[what]);
    }

    private static void begins(AirByYard x, int bird, int... want) {
        x.image();
        for (int day = 0; day < want.length; day++) {
            due("begins of " + bird + " on day " + day, x.of(bird, 9), want[day]);
            x.pass(1);
        }
        x.undo();
    }

    private static void set() {
        AirByYard x = new AirByYard();
        x.bird(BIRD, 0, 1, 2, 3, 4);
        int[] was = {1, 2, 3, 4, 100}, least = {0, 1, 0, 1, 0}, most = {9, 10, 23, 24, 9999}, of = {2, 3, 4, 5, 6};
        for (int what = 0; what < 5; what++) {
            due("below", x.set(0, what, least[what] - 1), BAD);
            due("above", x.set(0, what, most[what] + 1), BAD);
            due("it is as it was", x.of(0, of[what]), was[what]);
            due("set the least", x.set(0, what, least[what]), was[what]);
            due("set the most", x.set(0, what, most[what]), least[what]);
            due("it is so", x.of(0, of[what]), most[what]);
        }
        due("no bird", x.set(1, 0, 0), NONE);
        due("bird -1", x.set(-1, 0, -1), NONE);
        due("what 5", x.set(0, 5, -1), NONE);
        due("what -1", x.set(0, -1, 0), NONE);
        x.evict(0, true);
        due("a purse", x.set(0, 4, 50), 9999);
        due("still out", x.of(0, 7), 1);
    }

    private static void evict() {
        AirByYard x = new AirByYard();
        x.bird(BIRD, 0, 0, 1, 0, 1);
        due("out", x.evict(0, true), 0);
        due("out again", x.evict(0, true), 1);
        due("who is out", x.told(3), 1);
        due("held", x.held(0, 0), 0);
        due("in", x.evict(0, false), 1);
        due("in again", x.evict(0, false), 0);
        due("held", x.held(0, 0), 1);
        due("no bird", x.evict(1, true), NONE);
        due("bird -1", x.evict(-1, false), NONE);
    }

    private static void row() {
        AirByYard x = new AirByYard();
        x.bird(TOLD, 0, 0, 1, 0, 1);
        x.bird(LATE, 0, 0, 1, 0, 1);
        for (int part = 0; part < 4; part++) {
            due("at first", x.row(0, part, 9 - part), 0);
            due("then", x.row(0, part, part), 9 - part);
        }
        due("n 10", x.row(0, 0, 10), BAD);
        due("n -1", x.row(0, 0, -1), BAD);
        due("part 4", x.row(0, 4, 10), NONE);
        due("part -1", x.row(0, -1, 0), NONE);
        due("no bird", x.row(2, 0, 10), NONE);
        due("bird -1", x.row(-1, 0, 0), NONE);
        due("another kind", x.row(1, 0, 0), STATE);
        due("another kind, n 10", x.row(1, 0, 10), BAD);
        due("another kind, part 4", x.row(1, 4, 0), NONE);
        due("kept", x.row(0, 3, 3), 3);
    }

    private static void feed() {
        AirByYard x = new AirByYard();
        due("sign 128", x.feed(128), BAD);
        due("sign -1", x.feed(-1), BAD);
        due("sign 0", x.feed(0), 1);
        due("sign 127", x.feed(127), 2);
        for (int n = 3; n <= 100; n++) due("feed", x.feed('a'), n);
        due("the 101st", x.feed('a'), FULL);
        due("the 101st, bad", x.feed(128), BAD);
        due("count", x.count(5), 100);
        due("fault", x.estuary(), -10);
        due("empty now", x.feed('a'), 1);
    }

    private static void estuary() {
        AirByYard x = new AirByYard();
        for (int e = 0; e < 6; e++) due("estuary", read(x, "gain " + e + ";top " + (e + 1)), e);
        due("the last holds", x.told(1), 5);
        x.feed('x');
        due("the seventh", x.estuary(), FULL);
        due("the text stays", x.count(5), 1);
        due("count", x.count(1), 6);
        due("the last still holds", x.told(2), 6);
        x = with("gain 9");
        due("spoilt", read(x, "gain x"), -15);
        due("the one that held holds", x.told(1), 9);
        due("the text is empty", x.count(5), 0);
        due("count", x.count(1), 1);
        due("one after a spoilt one", read(x, "gain 8"), 1);
        read(x, "gain 5;top 3;dear 9 v=0;x");
        due("one after a spoilt one", read(x, "dear 7 v=0"), 2);
        x.bird(BIRD, 0, 0, 1, 0, 1);
        due("no gain of the spoilt one", x.told(1), 0);
        due("no top of the spoilt one", x.told(2), 10);
        due("no price of the spoilt one", x.of(0, 10), 8);
        x = with("gain 1;top 5;gain 2;top 7");
        due("the last gain", x.told(1), 2);
        due("the last top", x.told(2), 7);
        due("ten clauses", read(x, "gain 1;gain 1;gain 1;gain 1;gain 1;gain 1;gain 1;gain 1;gain 1;gain 3"), 1);
        due("its gain", x.told(1), 3);
        due("no top is 10", x.told(2), 10);
        due("top 0", with("top 0").told(2), 1);
        due("top 00", with("top 00").told(2), 1);
        due("top 11", with("top 11").told(2), 10);
        due("top 10", with("top 10").told(2), 10);
        due("a text of 100", read(x, "dear 1 !!!!b=1|!!!!b=1|!!!!b=1|!!!!b=1|!!!!b=1|!!!!b=1|!!!!b=1|!!!!b=1|!!!!b=1"
            + "|!!!!b=1|!!!!b=1|(b=1)"), 2);
    }

    private static void fault(String text, int place) {
        due("the fault of " + text, read(new AirByYard(), text), -10 - place);
    }

    private static void faults() {
        fault("", 0);
        fault("x", 0);
        fault(" gain 1", 0);
        fault("d", 1);
        fault("dx", 1);
        fault("cheat", 4);
        fault("gain", 4);
        fault("gain  1", 5);
        fault("gain x", 5);
        fault("gain 1 ", 6);
        fault("gain 123", 7);
        fault("gain 1 b=1", 6);
        fault("gain 1;", 7);
        fault("gain 1;;", 7);
        fault("gain 1; top 1", 7);
        fault("top -1", 4);
        fault("dear 1", 6);
        fault("dear 1;gain 1", 6);
        fault("dear 12", 7);
        fault("dear 123 b=1", 7);
        fault("dear 1 ", 7);
        fault("dear 1  b=1", 7);
        fault("dear 1 x=1", 7);
        fault("dear 1 b", 8);
        fault("dear 1 b!1", 8);
        fault("dear 1 b=", 9);
        fault("dear 1 b==", 9);
        fault("dear 1 b=123", 11);
        fault("dear 1 b=1)", 10);
        fault("dear 1 (b=1", 11);
        fault("dear 1 (b=1;", 11);
        fault("dear 1 ()", 8);
        fault("dear 1 b=1&", 11);
        fault("dear 1 b=1|", 11);
        fault("dear 1 b=1&&b=2", 11);
        fault("dear 1 b=1!", 10);
        fault("dear 1 b=1 ", 10);
        fault("dear 1 !", 8);
        fault("dear 1 !!!!!b=1", 11);
        fault("dear 1 (((((b=1)))))", 11);
        fault("dear 1 !(!(!b=1))", 11);
        with("dear 1 ((((b=1))))&((((b=1)|(b=1))))");
        fault("dear 1 (((b=1|((b=1)))))", 15);
        fault("cheap 1 b<1;dear 1 b<1;gain 1;top 1;gain 1;top 1;gain 1;top 1;gain 1;top 1;", 74);
        fault("gain 1;gain 1;gain 1;gain 1;gain 1;gain 1;gain 1;gain 1;gain 1;gain 1;gain 1", 69);
        fault("gain 1;gain 1;gain 1;gain 1;gain 1;gain 1;gain 1;gain 1;gain 1;gain 1x", 69);
    }

    private static void condition(String e, int bird, boolean is) {
        AirByYard x = new AirByYard();
        for (int b = 0; b <= 2; b++) x.bird(b == 2 ? HAWK : BIRD, b + 3, b + 5, 1, 10 * b, 1);
        x.pass(14);
        read(x, "dear 7 " + e);
        due("price of " + bird + " by " + e, x.of(bird, 10), is ? 8 : 1);
    }

    private static void conditions() {
        condition("b=0", 0, true);
        condition("b=0", 1, false);
        condition("b<1", 0, true);
        condition("b<1", 1, false);
        condition("b>1", 1, false);
        condition("b>1", 2, true);
        condition("k=5", 2, true);
        condition("k=5", 0, false);
        condition("v=4", 1, true);
        condition("v=5", 1, false);
        condition("l=7", 2, true);
        condition("l=9", 2, false);
        condition("f=20", 2, true);
        condition("f=22", 2, false);
        condition("d=4", 0, true);
        condition("d=14", 0, false);
        condition("b=05", 0, false);
        condition("b=00", 0, true);
        condition("!b=1", 0, true);
        condition("!b=1", 1, false);
        condition("!!b=1", 1, true);
        condition("b=0|b=1&b=2", 0, true);
        condition("b=1&b=2|b=0", 0, true);
        condition("(b=0|b=1)&b=2", 0, false);
        condition("b=0&b=0|b=1&b=2", 0, true);
        condition("b=1&b=0|b=0&b=0", 0, true);
        condition("b=1|b=2|b=0", 0, true);
        condition("b=1|b=2|b=3", 0, false);
        condition("b=0|b=1|b=2", 0, true);
        condition("b=0|b=1|b=2|b=3", 0, true);
        condition("b=9|b=0&b=0|b=2", 0, true);
        condition("b=0&v=3&l=5", 0, true);
        condition("b=0&v=3&l=6", 0, false);
        condition("!b=1&b=1", 1, false);
        condition("!(b=1|b=0)", 0, false);
        condition("!(b=1&b=0)|b=9", 0, true);
        condition("((((b=0))))", 0, true);
        condition("!(!(b=0|b=1)&b=0)", 1, true);
        AirByYard x = with("dear 99 b<9;dear 5 b=1;cheap 50 b=0;cheap 7 b<2;dear 2 b=7");
        x.bird(BIRD, 0, 0, 1, 0, 1);
        x.bird(BIRD, 0, 0, 1, 0, 1);
        x.bird(BIRD, 0, 0, 1, 0, 1);
        due("dear less cheap", x.of(0, 10), 43);
        due("dear twice less cheap", x.of(1, 10), 98);
        due("dear once", x.of(2, 10), 100);
        read(x, "cheap 1 b=0;cheap 2 b=1;dear 5 b>1;cheap 3 b=2");
        due("0 at least", x.of(0, 10), 0);
        due("0 at least, together", x.of(1, 10), 0);
        due("together", x.of(2, 10), 3);
        read(x, "cheap 9 b<9;dear 9 b<9");
        due("0 at least only behind all", x.of(0, 10), 1);
    }

    private static void told() {
        AirByYard x = with("dear 2 b=1;gain 30;top 4");
        x.bird(BIRD, 0, 1, 2, 23, 2);
        x.bird(SINGER, 0, 2, 5, 0, 3);
        x.bird(BIRD, 0, 0, 1, 0, 24);
        x.evict(2, true);
        x.pass(2);
        due("day", x.told(0), 2);
        due("gain", x.told(1), 30);
        due("top", x.told(2), 4);
        due("outs", x.told(3), 4);
        due("free", x.told(4), 96 - 4 - 6 + 1);
        due("crowded", x.told(5), 1);
        due("rent", x.told(6), 4 + 9);
        due("what 7", x.told(7), NONE);
        due("what -1", x.told(-1), NONE);
        x.evict(2, false);
        x.set(2, 0, 2);
        due("crowded, one strip by three", x.told(5), 2 + 2);
    }

    private static void held() {
        AirByYard x = with("top 4");
        x.bird(BIRD, 0, 1, 2, 22, 4);
        x.bird(LARK, 0, 2, 1, 1, 1);
        due("before it", x.held(1, 21), 0);
        due("its first hour", x.held(1, 22), 1);
        due("over midnight", x.held(1, 0), 1);
        due("ahead of it", x.held(1, 23), 1);
        due("its last hour", x.held(1, 1), 1);
        due("behind it", x.held(1, 2), 0);
        due("below it", x.held(0, 22), 0);
        due("two", x.held(2, 1), 3);
        due("the column", x.held(3, 1), 2);
        due("height 4", x.held(4, 0), NONE);
        due("height -1", x.held(-1, 0), NONE);
        due("hour 24", x.held(0, 24), NONE);
        due("hour -1", x.held(0, -1), NONE);
    }

    private static void free() {
        AirByYard x = with("top 5");
        x.bird(BIRD, 0, 1, 2, 23, 2);
        x.bird(HIGH, 0, 0, 2, 0, 1);
        due("22", x.free(22), 31);
        due("23", x.free(23), 31 - 6);
        due("0", x.free(0), 31 - 2 - 4 - 8);
        due("1", x.free(1), 31);
        due("24", x.free(24), NONE);
        due("-1", x.free(-1), NONE);
    }

    private static void clash() {
        AirByYard x = new AirByYard();
        x.bird(BIRD, 0, 0, 3, 22, 4);
        x.bird(BIRD, 0, 1, 5, 0, 5);
        x.bird(BIRD, 0, 3, 1, 0, 24);
        due("clash", x.clash(0, 1), 4);
        due("likewise", x.clash(1, 0), 4);
        due("none", x.clash(0, 2), 0);
        due("one is both", x.clash(2, 2), BAD);
        due("no such", x.clash(3, 3), NONE);
        due("no such", x.clash(0, 3), NONE);
        due("no such", x.clash(-1, 0), NONE);
        x.evict(0, true);
        due("out", x.clash(0, 1), 0);
    }

    private static void worst() {
        AirByYard x = new AirByYard();
        due("no birds", x.worst(), NOBODY);
        x.bird(BIRD, 0, 0, 1, 0, 2);
        x.bird(BIRD, 0, 1, 1, 0, 4);
        due("none", x.worst(), NOBODY);
        x.bird(BIRD, 0, 0, 2, 0, 2);
        due("the first of two with 2", x.worst(), 2);
        x.set(2, 3, 3);
        due("the greatest", x.worst(), 12);
        x.evict(2, true);
        due("out", x.worst(), NOBODY);
    }

    private static void pass() {
        AirByYard x = with("gain 10;dear 1 d=1");
        x.bird(BIRD, 0, 0, 3, 0, 10);
        x.bird(BIRD, 0, 0, 1, 0, 10);
        x.bird(SINGER, 0, 0, 1, 0, 1);
        x.set(2, 4, 9995);
        due("n -1", x.pass(-1), BAD);
        due("n 61", x.pass(61), BAD);
        due("0 days", x.pass(0), 0);
        due("1 day", x.pass(1), 1);
        due("80 is left", x.of(0, 6), 80);
        due("gain is rent", x.of(1, 6), 100);
        due("9999 at most", x.of(2, 6), 9999);
        x.pass(1);
        due("a dear day", x.of(0, 6), 30);
        due("a dear day", x.of(1, 6), 90);
        x.pass(1);
        due("10 is left", x.of(0, 6), 10);
        x.pass(1);
        due("it is empty", x.of(0, 6), 0);
        due("it is out", x.of(0, 7), 1);
        x.pass(5);
        due("out gains nothing", x.of(0, 6), 0);
        x.set(1, 4, 0);
        x.pass(1);
        due("0 is not below 0", x.of(1, 7), 0);
        AirByYard y = new AirByYard();
        for (int i = 0; i < 166; i++) y.pass(60);
        due("day 9960", y.told(0), 9960);
        due("beyond", y.pass(40), STATE);
        due("bad ahead of beyond", y.pass(61), BAD);
        due("the last", y.pass(39), 9999);
        due("beyond", y.pass(1), STATE);
        due("none", y.pass(0), 9999);
        y.bird(LATE, 0, 0, 1, 0, 1);
        due("beyond 9999", y.on(60, 10), 40);
        due("odd", y.of(0, 9), 1);
    }

    private static void on() {
        AirByYard x = with("gain 5;dear 1 d=3");
        x.bird(BIRD, 0, 0, 1, 0, 20);
        x.bird(SINGER, 0, 0, 1, 0, 10);
        x.bird(BIRD, 0, 0, 1, 0, 10);
        x.evict(2, true);
        due("purse on 0", x.on(0, 10), 100);
        due("rent on 0", x.on(0, 20), 20);
        due("purse on 4", x.on(4, 10), 100 - 4 * 15 - 20);
        due("purse on 4", x.on(4, 11), 95);
        due("rent on 3", x.on(3, 20), 40);
        due("rent on 3", x.on(3, 21), 10);
        due("rent of all on 3", x.on(3, 1), 50);
        due("out on 5", x.on(5, 0), 4);
        due("out on 6", x.on(6, 0), 5);
        due("rent on 6", x.on(6, 20), 0);
        due("purse on 6", x.on(6, 10), 0);
        due("purse of one out", x.on(6, 12), 100);
        due("n 60", x.on(60, 0), 5);
        due("n 61", x.on(61, 0), BAD);
        due("n -1", x.on(-1, 20), BAD);
        due("no bird, n 61", x.on(61, 13), NONE);
        due("no bird", x.on(0, 23), NONE);
        due("what 2", x.on(0, 2), NONE);
        due("what 9", x.on(0, 9), NONE);
        due("what -1", x.on(0, -1), NONE);
        due("what 19", x.on(0, 19), NONE);
        due("day is as it was", x.told(0), 0);
        due("purse is as it was", x.of(0, 6), 100);
    }

    private static void empty() {
        AirByYard x = with("gain 1");
        x.bird(BIRD, 0, 0, 1, 0, 2);
        due("100 days, the 101st is beyond", x.empty(0), NOBODY);
        x.set(0, 4, 99);
        due("behind 100", x.empty(0), NOBODY);
        x.set(0, 4, 98);
        due("behind 99", x.empty(0), 99);
        x.set(0, 4, 0);
        due("behind 1", x.empty(0), 1);
        x.evict(0, true);
        due("now", x.empty(0), 0);
        due("no bird", x.empty(1), NONE);
        due("bird -1", x.empty(-1), NONE);
        x = with("dear 50 d=4");
        x.bird(BIRD, 0, 0, 1, 0, 1);
        x.set(0, 4, 20);
        x.pass(3);
        due("by the days that come", x.empty(0), 2);
    }

    private static void lower() {
        AirByYard x = with("top 6");
        x.bird(BIRD, 0, 0, 2, 0, 3);
        due("alone", x.lower(0, 0), 0);
        due("alone", x.lower(0, 1), 0);
        x.bird(BIRD, 0, 0, 3, 2, 3);
        x.bird(BIRD, 0, 5, 1, 0, 1);
        due("above the second", x.lower(0, 0), 3);
        due("none", x.lower(0, 1), 0);
        x.bird(BIRD, 0, 0, 10, 0, 1);
        due("beyond the top", x.lower(0, 0), 6);
        x.bird(SINGER, 0, 0, 6, 0, 24);
        x.set(0, 0, 9);
        due("beyond the top again", x.lower(0, 0), 6);
        read(x, "top 10");
        x.set(3, 0, 9);
        x.set(3, 1, 1);
        x.set(4, 0, 0);
        x.set(4, 1, 9);
        due("two of its strips by others", x.lower(0, 0), 9);
        due("one", x.lower(0, 1), 1);
        x.set(3, 3, 3);
        due("three", x.lower(0, 1), 3);
        x.evict(0, true);
        due("out holds none", x.lower(0, 0), 0);
        due("out holds none", x.lower(0, 1), 0);
        due("what 2", x.lower(0, 2), NONE);
        due("what -1", x.lower(0, -1), NONE);
        due("no bird", x.lower(5, 0), NONE);
        due("its low is as it was", x.of(0, 2), 9);
    }

    private static void sooner() {
        AirByYard x = new AirByYard();
        x.bird(LATE, 0, 0, 1, 5, 4);
        due("alone", x.sooner(0, 0), 0);
        x.bird(BIRD, 0, 0, 1, 0, 10);
        due("behind it", x.sooner(0, 0), 10);
        due("none", x.sooner(0, 1), 0);
        x.pass(1);
        due("a day later", x.sooner(0, 0), 9);
        x.set(1, 3, 22);
        due("least shared", x.sooner(0, 0), 19);
        due("two", x.sooner(0, 1), 2);
        due("the other", x.sooner(1, 0), 8);
        due("two", x.sooner(1, 1), 2);
        x.evict(0, true);
        due("out", x.sooner(0, 0), 0);
        due("what 2", x.sooner(0, 2), NONE);
        due("what -1", x.sooner(0, -1), NONE);
        due("no bird", x.sooner(2, 0), NONE);
        due("its from is as it was", x.of(0, 4), 5);
    }

    private static void let() {
        AirByYard x = new AirByYard();
        due("no birds", x.let(0), 0);
        due("no birds", x.let(1), 0);
        x.bird(BIRD, 0, 9, 1, 0, 1);
        due("one, all of them", x.let(0), 1);
        x.bird(BIRD, 0, 8, 1, 0, 1);
        due("two, all of them", x.let(0), 3);
        x = new AirByYard();
        x.bird(BIRD, 0, 0, 1, 0, 4);
        x.bird(BIRD, 0, 0, 1, 3, 6);
        x.bird(BIRD, 0, 0, 1, 8, 4);
        due("two of three", x.let(0), 5);
        due("two of three", x.let(1), 8);
        x.set(1, 3, 8);
        x.set(2, 3, 4);
        due("of several the least", x.let(0), 2);
        x.bird(SINGER, 0, 5, 1, 0, 10);
        due("half", x.let(1), 13);
        x.evict(1, true);
        due("not those who are out", x.let(0), 13);
        x.bird(SINGER, 0, 5, 1, 15, 1);
        due("one who pays nothing", x.let(0), 13);
        due("what 2", x.let(2), NONE);
        due("what -1", x.let(-1), NONE);
    }

    private static void whoEvict() {
        AirByYard x = new AirByYard();
        due("no birds", x.whoEvict(), 0);
        x.bird(BIRD, 0, 0, 1, 0, 4);
        due("one", x.whoEvict(), 0);
        x.bird(BIRD, 0, 0, 1, 3, 6);
        due("of two the least", x.whoEvict(), 1);
        x.bird(BIRD, 0, 0, 1, 8, 4);
        due("the one between", x.whoEvict(), 2);
        x.bird(BIRD, 0, 0, 1, 0, 24);
        due("two", x.whoEvict(), 10);
        x.evict(3, true);
        due("one is out", x.whoEvict(), 2);
        x.evict(1, true);
        due("two are out", x.whoEvict(), 0);
    }

    private static void ways() {
        AirByYard x = with("top 1");
        due("one way", x.ways(0), 1);
        due("height 1", x.ways(1), NO);
        due("height -1", x.ways(-1), NO);
        read(x, "top 2");
        due("two each hour", x.ways(1), 1L << 23);
        x.bird(BIRD, 0, 1, 1, 3, 20);
        due("but for some", x.ways(0), 1 << 3);
        x.set(0, 3, 1);
        x.set(0, 2, 0);
        due("it is held", x.ways(1), 0);
        x.bird(LARK, 0, 0, 1, 7, 1);
        due("a wall", x.ways(0), 0);
        due("no estuary", new AirByYard().ways(0), 17938920221L);
    }

    private static void outs() {
        AirByYard x = with("top 5");
        due("all", x.outs(2), 31);
        due("height 5", x.outs(5), NONE);
        due("the highest", x.outs(4), 31);
        due("height -1", x.outs(-1), NONE);
        x.bird(BIRD, 0, 1, 1, 0, 24);
        due("below", x.outs(0), 1);
        due("held", x.outs(1), 0);
        due("above", x.outs(3), 28);
        x.bird(BIRD, 0, 3, 2, 0, 22);
        due("free again at 22", x.outs(2), 28);
        x.set(1, 3, 23);
        due("free again at 23", x.outs(2), 12);
        x = with("top 10");
        x.bird(BIRD, 0, 0, 1, 0, 1);
        due("held at 0 alone", x.outs(0), 0);
        due("free at 1", x.outs(1), 1023);
        x.bird(BIRD, 0, 2, 10, 2, 1);
        due("held at 2", x.outs(4), 0);
        due("down by then", x.outs(3), 1023);
        x.set(1, 2, 1);
        due("not down by then", x.outs(3), 0);
        due("down by then", x.outs(2), 1023);
    }

    private static void see() {
        AirByYard x = new AirByYard();
        due("height 10", x.see(10, 0, true, 0), BAD);
        due("height -2", x.see(-2, 0, true, 0), BAD);
        due("hour 24", x.see(0, 24, true, 0), BAD);
        due("hour -1", x.see(0, -1, true, 0), BAD);
        due("n 21", x.see(0, 0, true, 21), BAD);
        due("n -1", x.see(0, 0, true, -1), BAD);
        for (int n = 1; n <= 5; n++) due("see", x.see(9, 23, n % 2 == 0, 20), n);
        due("a sixth", x.see(0, 0, true, 0), FULL);
        due("a sixth, bad", x.see(0, 24, true, 0), BAD);
        due("count", x.count(2), 5);
        due("none", x.see(-1, 99, true, 99), 0);
        due("count", x.count(2), 0);
        due("the first again", x.see(0, 0, false, 0), 1);
    }

    private static void can() {
        AirByYard x = with("gain 0;top 8;dear 99 l=4");
        x.bird(BIRD, 0, 0, 2, 5, 1);
        due("nothing seen", x.can(0, 0), 10);
        due("nothing seen", x.can(0, 1), 0);
        x.see(3, 5, true, 0);
        due("2 or 3", x.can(0, 0), 2);
        due("2", x.can(0, 1), 2);
        x.see(3, 5, false, 20);
        due("4 is empty by then, but was not there", x.can(0, 0), 0);
        due("none", x.can(0, 1), NOBODY);
        x.see(-1, 0, true, 0);
        x.see(4, 5, true, 0);
        x.see(4, 5, false, 2);
        due("only 4 is out by then", x.can(0, 1), 4);
        due("one", x.can(0, 0), 1);
        x.bird(BIRD, 0, 4, 1, 5, 1);
        x.set(1, 4, 9999);
        due("the other is there on 2", x.can(0, 0), 0);
        x.see(-1, 0, true, 0);
        x.see(4, 5, true, 20);
        due("whatever it is", x.can(0, 0), 10);
        x.see(8, 5, true, 0);
        due("no such height", x.can(0, 0), 0);
        x.see(-1, 0, true, 0);
        x.see(8, 5, false, 0);
        x.evict(0, true);
        due("whatever it is", x.can(0, 1), 0);
        due("what 2", x.can(0, 2), NONE);
        due("what -1", x.can(0, -1), NONE);
        due("no bird", x.can(2, 0), NONE);
        x = new AirByYard();
        x.bird(LATE, 0, 0, 1, 5, 1);
        x.see(0, 6, true, 1);
        due("from now on", x.can(0, 0), 1);
        x.pass(1);
        due("from then on", x.can(0, 0), 0);
        due("its low is as it was", x.of(0, 2), 0);
        x = with("dear 99 d=5&l=3");
        x.bird(HAWK, 0, 0, 1, 5, 2);
        x.bird(HAWK, 0, 0, 1, 5, 2);
        x.bird(BIRD, 0, 9, 1, 0, 1);
        x.pass(4);
        x.see(2, 7, true, 1);
        due("by the other of the two", x.can(1, 0), 10);
        due("by the other of the two", x.can(0, 0), 10);
        due("by both of them", x.can(2, 0), 10);
        x.see(-1, 0, true, 0);
        x.see(2, 5, true, 1);
        due("a hawk's third day", x.can(0, 0), 0);
        x.see(-1, 0, true, 0);
        x.see(5, 7, false, 3);
        due("3 is out by then", x.can(0, 0), 10);
        x.see(5, 8, false, 1);
        due("not yet", x.can(0, 0), 9);
    }

    private static void odds() {
        AirByYard x = with("top 8");
        due("all", x.odds(0, 0), 1);
        due("all", x.odds(0, 1), 1);
        x.bird(BIRD, 0, 0, 2, 5, 1);
        due("6 of 8", x.odds(5, 0), 3);
        due("6 of 8", x.odds(5, 1), 4);
        x.set(0, 1, 3);
        due("5 of 8", x.odds(5, 0), 5);
        due("5 of 8", x.odds(5, 1), 8);
        x.set(0, 1, 8);
        due("0 of 8", x.odds(5, 0), 0);
        due("0 of 8", x.odds(5, 1), 1);
        due("hour 23", x.odds(23, 0), 1);
        due("hour 24", x.odds(24, 0), NO);
        due("hour -1", x.odds(-1, 0), NO);
        due("part 2", x.odds(0, 2), NO);
        due("part -1", x.odds(0, -1), NO);
    }

    private static void mean() {
        AirByYard x = new AirByYard();
        due("none", x.mean(0), NO);
        x.bird(BIRD, 0, 0, 1, 0, 3);
        x.bird(BIRD, 0, 0, 1, 0, 2);
        due("5 by 2", x.mean(0), 5);
        due("5 by 2", x.mean(1), 2);
        x.bird(BIRD, 0, 0, 1, 0, 1);
        due("6 by 3", x.mean(0), 2);
        due("6 by 3", x.mean(1), 1);
        due("part 2", x.mean(2), NO);
        due("part -1", x.mean(-1), NO);
        x.evict(0, true);
        due("3 by 2", x.mean(0), 3);
        due("3 by 2", x.mean(1), 2);
        read(x, "cheap 9 b<9");
        due("0 by 2", x.mean(0), 0);
        due("0 by 2", x.mean(1), 1);
        x.evict(1, true);
        x.evict(2, true);
        due("all are out", x.mean(1), NO);
    }

    private static void lease() {
        AirByYard x = new AirByYard();
        x.bird(BIRD, 0, 0, 1, 0, 3);
        due("no bird", x.lease(1, 10, 0), NONE);
        due("bird -2", x.lease(-2, 0, 0), NONE);
        due("low 10", x.lease(0, 10, 0), BAD);
        due("low -1", x.lease(0, -1, 0), BAD);
        due("from 24", x.lease(0, 0, 24), BAD);
        due("from -1", x.lease(0, 0, -1), BAD);
        for (int n = 1; n <= 6; n++) due("lease", x.lease(0, 9, 23), n);
        due("a seventh", x.lease(0, 0, 0), FULL);
        due("a seventh, bad", x.lease(0, 10, 0), BAD);
        due("count", x.count(3), 6);
        due("none", x.lease(-1, 99, 99), 0);
        due("count", x.count(3), 0);
    }

    private static void leased() {
        AirByYard x = with("dear 1 l=4|f=9;top 6");
        x.bird(BIRD, 0, 0, 2, 0, 3);
        x.bird(HIGH, 0, 0, 2, 2, 3);
        due("as it is", x.leased(0), 0);
        due("as it is", x.leased(1), 12);
        x.lease(0, 2, 0);
        due("they meet", x.leased(0), 2);
        x.lease(0, 4, 3);
        due("the later row", x.leased(0), 0);
        due("a dear low", x.leased(1), 18);
        x.lease(1, 3, 9);
        due("cut and dear", x.leased(1), 12 + 6);
        due("what 2", x.leased(2), NONE);
        due("what -1", x.leased(-1), NONE);
        due("low is as it was", x.of(0, 2), 0);
        due("crowded is as it was", x.told(5), 0);
        x.evict(0, true);
        due("out", x.leased(1), 6);
    }

    private static void book() {
        AirByYard x = new AirByYard();
        x.bird(BIRD, 0, 0, 1, 0, 3);
        due("no bird", x.book(1, -1), NONE);
        due("bird -2", x.book(-2, 0), NONE);
        due("purse -1", x.book(0, -1), BAD);
        due("purse 10000", x.book(0, 10000), BAD);
        for (int n = 1; n <= 8; n++) due("book", x.book(0, 9999), n);
        due("a ninth", x.book(0, 0), FULL);
        due("a ninth, bad", x.book(0, -1), BAD);
        due("count", x.count(4), 8);
        due("none", x.book(-1, -1), 0);
        due("count", x.count(4), 0);
    }

    private static void looked() {
        AirByYard x = new AirByYard();
        due("no rows", x.looked(), NOBODY);
        x.bird(BIRD, 0, 0, 1, 0, 3);
        x.bird(BIRD, 0, 1, 1, 0, 2);
        x.book(0, 100);
        x.book(1, 100);
        due("as it is", x.looked(), NOBODY);
        x.book(0, 97);
        due("otherwise", x.looked(), 2);
        x.pass(1);
        due("the first", x.looked(), 0);
        x.set(0, 4, 100);
        due("the next", x.looked(), 1);
    }

    private static void judge() {
        AirByYard x = with("top 5");
        x.bird(BIRD, 0, 1, 2, 23, 2);
        due("tape 6", x.judge(6, 0), NONE);
        due("tape -1", x.judge(-1, 0), NONE);
        due("it holds nothing", x.judge(0, 0), 100);
        x.tape(0, 2, 30);
        due("ints", x.judge(0, 0), CAST);
        due("ints, a place below 0", x.judge(0, -1), CAST);
        x.tape(0, 3, 30);
        for (int h = 0; h < 24; h++) x.item(0, 6 + h, x.free(h));
        due("as it is", x.judge(0, 6), NOBODY);
        due("place -1", x.judge(0, -1), 100);
        due("the first", x.judge(0, 5), 0);
        due("place 30", x.judge(0, 30), 100);
        due("a far place", x.judge(0, Integer.MAX_VALUE), 100);
        x.item(0, 29, x.free(23) + (1L << 40));
        due("the last is otherwise", x.judge(0, 6), 23);
        x.tape(1, 3, 20);
        x.shift(0, 6, 1, 3, 17);
        due("17 looked at", x.judge(1, 3), 117);
        x.item(1, 19, 7);
        due("otherwise ahead of its end", x.judge(1, 3), 16);
        x.tape(2, 3, 0);
        due("an empty row", x.judge(2, 0), 100);
        due("tape 5", x.judge(5, 0), 100);
    }

    private static void image() {
        AirByYard x = new AirByYard();
        due("none", x.image(), 0);
        x.bird(BIRD, 0, 0, 1, 0, 3);
        due("undo", x.undo(), 0);
        x.bird(BIRD, 0, 0, 1, 0, 3);
        x.bird(BIRD, 0, 0, 1, 0, 3);
        due("two", x.image(), 2);
        due("undo", x.undo(), 2);
    }

    private static void undo() {
        AirByYard x = with("gain 3");
        due("there is none", x.undo(), STATE);
        x.bird(TOLD, 1, 2, 3, 4, 5);
        x.row(0, 1, 6);
        x.see(1, 2, true, 3);
        x.lease(0, 1, 2);
        x.book(0, 100);
        x.pass(1);
        x.image();
        due("another estuary", read(x, "top 4;gain 7"), 1);
        x.bird(BIRD, 0, 0, 1, 0, 3);
        for (int what = 0; what < 5; what++) x.set(0, what, 7);
        x.evict(0, true);
        x.row(0, 1, 9);
        x.see(1, 2, true, 3);
        x.lease(-1, 1, 2);
        x.book(0, 7);
        x.pass(5);
        x.feed('g');
        x.tape(0, 3, 4);
        x.act(0, 0, 1);
        due("undo", x.undo(), 1);
        int[] want = {6, 1, 2, 3, 4, 5, 88, 0, 2, 11, 1, 15, 15};
        all(x, 0, want);
        due("row", x.row(0, 1, 6), 6);
        due("day", x.told(0), 1);
        due("the estuary that held", x.told(1), 3);
        due("its top", x.told(2), 10);
        due("birds", x.count(0), 1);
        due("estuaries stay", x.count(1), 2);
        due("seen", x.count(2), 1);
        due("leases", x.count(3), 1);
        due("the book", x.count(4), 1);
        due("the text stays", x.count(5), 1);
        due("the trace stays", x.count(6), 2);
        due("tapes stay", x.judge(0, 0), 0);
        x.evict(0, true);
        due("again", x.undo(), 1);
        due("again", x.of(0, 7), 0);
        x.feed('a');
        x.feed('i');
        x.feed('n');
        due("a third estuary", read(x, " 9"), 2);
        due("the newest holds", x.told(1), 9);
        x = new AirByYard();
        x.image();
        read(x, "gain 9");
        x.undo();
        due("none holds again", x.told(1), 0);
        x.bird(TOLD, 0, 0, 1, 0, 1);
        for (int part = 0; part < 4; part++) x.row(0, part, 1 + part);
        x.set(0, 4, 7);
        x.evict(0, true);
        x.undo();
        x.bird(TOLD, 0, 0, 1, 0, 1);
        for (int part = 0; part < 4; part++) due("a new row", x.row(0, part, 0), 0);
        due("a new purse", x.of(0, 6), 100);
        due("not out", x.of(0, 7), 0);
        x.see(2, 0, true, 0);
        x.see(3, 0, false, 0);
        x.lease(0, 4, 0);
        x.book(0, 7);
        x.image();
        x.see(-1, 0, true, 0);
        x.see(5, 0, true, 0);
        x.see(6, 1, false, 1);
        x.lease(-1, 0, 0);
        x.lease(0, 9, 9);
        x.book(-1, 0);
        x.book(0, 100);
        x.bird(BIRD, 0, 4, 1, 0, 1);
        x.undo();
        due("what was seen", x.can(0, 1), 2);
        due("the book", x.looked(), 0);
        x.bird(BIRD, 0, 4, 1, 0, 1);
        due("the leases", x.leased(0), 1);
    }

    private static void act() {
        AirByYard x = new AirByYard();
        for (int kind = 0; kind < 7; kind++) x.bird(kind, kind + 2, 0, 1, 0, 1);
        acts(x, 0, 0, 5, 5, 10);
        acts(x, 0, 1, 5, 3, 11, 10);
        acts(x, 0, 2, 5, 6, 12, 11, 10);
        acts(x, 1, 0, 5, 6, 10);
        acts(x, 1, 1, 5, (6 - 3) ^ 6, 20, 11, 10);
        acts(x, 1, 2, 5, ((6 - 3) ^ 6) * 2, 12, 20, 11, 10);
        acts(x, 2, 0, 5, 17, 30, 10);
        acts(x, 2, 1, 5, 13, 11, 30, 10);
        acts(x, 2, 2, 5, 26, 12, 11, 30, 10);
        acts(x, 3, 1, 5, 3, 11, 10);
        acts(x, 3, 2, 5, 2 * 3 + (4 - 5), 40, 12, 11, 10, 11, 10);
        acts(x, 4, 0, 5, -9, 50, 10);
        acts(x, 4, 1, 5, (-10 - 6) ^ 6, 51, 20, 11, 50, 10);
        acts(x, 4, 2, 5, ((-10 - 6) ^ 6) * 2, 12, 51, 20, 11, 50, 10);
        acts(x, 5, 0, 5, 20, 30, 10);
        acts(x, 5, 2, 7, (2 * 3 + 5 - 7) * 2, 60, 12, 11, 30, 10);
        acts(x, 6, 0, 5, 11 ^ 8, 71, 10);
        acts(x, 6, 1, 5, (11 ^ 8) - 8 + 8, 70, 11, 71, 10, 10);
        acts(x, 6, 2, 5, (11 ^ 8) * 2 + (7 ^ 8), 40, 12, 70, 11, 71, 10, 10, 70, 11, 71, 10, 10);
        due("wrapping", x.act(2, 0, Integer.MAX_VALUE), Integer.MAX_VALUE * 3 + 2);
        due("wrapping", x.act(0, 2, 1 << 30), (1 << 31) - 4);
        due("no bird", x.act(7, 0, 5), 0);
        due("no trace", x.count(6), 0);
        x.act(0, 0, 1);
        due("act 3", x.act(0, 3, 5), 0);
        due("no trace", x.trace(0), NONE);
        x.act(0, 0, 1);
        due("act -1", x.act(0, -1, 5), 0);
        due("no trace", x.count(6), 0);
        due("bird -1", x.act(-1, 0, 5), 0);
    }

    private static void acts(AirByYard x, int bird, int act, int n, int want, int... trace) {
        due("act(" + bird + ", " + act + ", " + n + ")", x.act(bird, act, n), want);
        due("how many bodies of " + bird + ", " + act, x.count(6), trace.length);
        for (int i = 0; i < trace.length; i++) due("trace(" + i + ") of " + bird + ", " + act, x.trace(i), trace[i]);
        due("trace behind its end", x.trace(trace.length), NONE);
    }

    private static void trace() {
        AirByYard x = new AirByYard();
        due("none", x.trace(0), NONE);
        x.bird(BIRD, 0, 0, 1, 0, 1);
        x.act(0, 2, 1);
        due("0", x.trace(0), 12);
        due("1", x.trace(1), 11);
        due("2", x.trace(2), 10);
        due("3", x.trace(3), NONE);
        due("-1", x.trace(-1), NONE);
        due("20", x.trace(20), NONE);
        x.act(0, 0, 1);
        due("the latest alone", x.trace(0), 10);
        due("the latest alone", x.trace(1), NONE);
    }

    private static void taken() {
        AirByYard x = new AirByYard();
        for (int kind = 0; kind < 7; kind++) x.bird(kind, 0, 0, 1, 0, 1);
        int[] under = {1, 1 << 1 | 1, 1 << 2 | 1, 1 << 3 | 1, 1 << 4 | 1 << 1 | 1, 1 << 5 | 1 << 2 | 1, 1 << 6 | 1 << 3 | 1};
        for (int kind = 0; kind < 7; kind++) {
            for (int k = 0; k < 7; k++) {
                due("taken(" + kind + ", " + k + ")", x.taken(kind, k), (under[kind] >> k & 1) == 1 ? kind : CAST);
            }
        }
        due("kind 7", x.taken(9, 7), BAD);
        due("kind -1", x.taken(0, -1), BAD);
        due("no bird", x.taken(7, 0), NOTHING);
        due("bird -1", x.taken(-1, 6), NOTHING);
    }

    private static void count() {
        AirByYard x = with("gain 1");
        x.bird(LATE, 0, 0, 1, 0, 1);
        x.bird(BIRD, 0, 0, 1, 0, 1);
        for (int i = 0; i < 3; i++) x.see(0, 0, true, 0);
        for (int i = 0; i < 4; i++) x.lease(0, 0, 0);
        for (int i = 0; i < 5; i++) x.book(0, 0);
        for (int i = 0; i < 7; i++) x.feed('a');
        x.act(0, 2, 0);
        int[] want = {2, 1, 3, 4, 5, 7, 6};
        for (int what = 0; what < 7; what++) due("count " + what, x.count(what), want[what]);
        due("7", x.count(7), BAD);
        due("-1", x.count(-1), BAD);
    }

    private static void tape() {
        AirByYard x = new AirByYard();
        due("tape 6", x.tape(6, 9, 99), NONE);
        due("tape -1", x.tape(-1, 0, 1), NONE);
        due("sort 5", x.tape(0, 5, -1), BAD);
        due("sort -2", x.tape(0, -2, 1), BAD);
        due("61", x.tape(0, 0, 61), BAD);
        due("-1", x.tape(0, 0, -1), SIZE);
        due("nothing still", x.item(0, 0, 1), NOTHING);
        for (int sort = 0; sort < 5; sort++) due("60", x.tape(sort, sort, 60), 1);
        x.item(3, 59, 7);
        due("a refused one", x.tape(3, 3, 61), BAD);
        due("stays", x.read(3, 59), 7);
        due("again", x.tape(3, 3, 60), 1);
        due("all 0", x.read(3, 59), 0);
        due("0", x.tape(3, 3, 0), 1);
        due("no place", x.item(3, 0, 1), PLACE);
        due("nothing", x.tape(3, -1, -99), 1);
        due("nothing", x.item(3, 0, 1), NOTHING);
    }

    private static void item() {
        AirByYard x = new AirByYard();
        for (int sort = 0; sort < 5; sort++) x.tape(sort, sort, 2);
        long[][] want = {
            {128, -128, 128, 128, 128, 1}, {255, -1, 255, 255, 255, 1}, {256, 0, 256, 256, 256, 1},
            {32768, 0, -32768, 32768, 32768, 1}, {65536, 0, 0, 65536, 65536, 1},
            {1L << 31, 0, 0, Integer.MIN_VALUE, 1L << 31, 1}, {1L << 32, 0, 0, 0, 1L << 32, 1},
            {-1, -1, -1, -1, -1, 1}, {0, 0, 0, 0, 0, 0}, {Long.MIN_VALUE, 0, 0, 0, Long.MIN_VALUE, 1},
        };
        for (long[] w : want) {
            for (int sort = 0; sort < 5; sort++) {
                due("item", x.item(sort, 1, w[0]), 1);
                due(w[0] + " in sort " + sort, x.read(sort, 1), w[1 + sort]);
            }
        }
        due("tape 6", x.item(6, 0, 1), NONE);
        due("tape -1", x.item(-1, 0, 1), NONE);
        due("nothing", x.item(5, -1, 1), NOTHING);
        due("place 2", x.item(0, 2, 1), PLACE);
        due("place -1", x.item(0, -1, 1), PLACE);
        due("tape 5", x.tape(5, 3, 1), 1);
        due("tape 5", x.item(5, 0, 8), 1);
        due("tape 5", x.read(5, 0), 8);
        due("from tape 5", x.shift(5, 0, 3, 0, 1), 1);
        due("to tape 5", x.shift(3, 0, 5, 0, 1), 1);
        due("the other one", x.read(0, 0), 0);
    }

    private static void read() {
        AirByYard x = new AirByYard();
        x.tape(0, 3, 2);
        x.item(0, 0, 5);
        x.item(0, 1, -6);
        due("0", x.read(0, 0), 5);
        due("1", x.read(0, 1), -6);
        due("2", x.read(0, 2), NO);
        due("-1", x.read(0, -1), NO);
        due("nothing", x.read(1, 0), NO);
        due("tape 6", x.read(6, 0), NO);
        due("tape -1", x.read(-1, 0), NO);
    }

    private static void shift() {
        AirByYard x = new AirByYard();
        x.tape(0, 2, 5);
        x.tape(1, 2, 3);
        x.tape(2, 3, 3);
        for (int i = 0; i < 5; i++) x.item(0, i, i + 1);
        due("tape 6", x.shift(6, 0, 0, 0, -1), NONE);
        due("other -1", x.shift(0, 0, -1, 0, 0), NONE);
        due("from nothing", x.shift(3, -1, 0, 0, 0), NOTHING);
        due("to nothing", x.shift(2, 0, 3, 0, 0), NOTHING);
        due("unlike sorts", x.shift(0, -1, 2, 0, 1), CAST);
        due("n -1", x.shift(0, 1, 1, 1, -1), PLACE);
        due("i -1", x.shift(0, -1, 1, 0, 1), PLACE);
        due("j -1", x.shift(0, 0, 1, -1, 1), PLACE);
        due("i beyond", x.shift(0, 4, 1, 0, 2), PLACE);
        due("j beyond", x.shift(0, 0, 1, 2, 2), PLACE);
        due("none, i beyond", x.shift(0, 6, 1, 0, 0), PLACE);
        due("far", x.shift(0, Integer.MAX_VALUE, 1, 0, 1), PLACE);
        due("far", x.shift(0, 1, 1, 1, Integer.MAX_VALUE), PLACE);
        due("none", x.shift(0, 5, 1, 3, 0), 0);
        row(x, 0, 1, 2, 3, 4, 5);
        due("to another", x.shift(0, 2, 1, 0, 3), 3);
        row(x, 1, 3, 4, 5);
        due("up", x.shift(0, 0, 0, 1, 4), 4);
        row(x, 0, 1, 1, 2, 3, 4);
        due("down", x.shift(0, 1, 0, 0, 4), 4);
        row(x, 0, 1, 2, 3, 4, 4);
    }

    private static void row(AirByYard x, int tape, long... want) {
        for (int i = 0; i < want.length; i++) due("read(" + tape + ", " + i + ")", x.read(tape, i), want[i]);
    }
}
