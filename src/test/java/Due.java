import java.util.function.IntUnaryOperator;

/** What tests by the document's sentences share: which one is looked at, and how many answers were not as due. */
abstract class Due {
    static final int NONE = -1, BAD = -2, STATE = -3, FULL = -4, NOBODY = -5;
    static final int NOTHING = -11, CAST = -12, PLACE = -13, SIZE = -14;
    static final long NO = Long.MIN_VALUE;
    static final int BIRD = 0, SINGER = 1, HIGH = 2, LATE = 3, LARK = 4, HAWK = 5, TOLD = 6;
    static final int MIN = Integer.MIN_VALUE, MAX = Integer.MAX_VALUE;
    private static String sentence = "";
    private static int promise = 0;
    private static int wrong = 0;

    static void promise(int n) { promise = n; }

    /** The document's words, or near them, that the answers behind it are due by. */
    static void says(String words) { sentence = words; }

    static void due(String call, long got, long want) {
        if (got != want) fail(call + " answered " + got + ", due is " + want);
    }

    static void same(String call, String got, String want) {
        if (!got.equals(want)) fail(call + " is otherwise: " + difference(got, want));
    }

    static void fail(String what) {
        wrong++;
        System.out.println("promise " + promise + ", \"" + sentence + "\": " + what);
    }

    private static String difference(String got, String want) {
        String[] a = got.split("\n"), b = want.split("\n");
        for (int i = 0; i < Math.min(a.length, b.length); i++) {
            if (!a[i].equals(b[i])) return a[i] + ", due is " + b[i];
        }
        return a.length + " answers, due are " + b.length;
    }

    /** Ends the test's program. */
    static void end(String test) {
        System.out.println(test + ": " + (wrong == 0 ? "all answers are as due" : wrong + " answers are not as due"));
        if (wrong != 0) System.exit(1);
    }

    /** The numbers just beyond the least and the greatest that is taken, and the farthest. */
    static int[] beyond(int least, int most) { return new int[] {least - 1, most + 1, MIN, MAX}; }

    static void feed(AirByYard x, String text) {
        for (int i = 0; i < text.length(); i++) x.feed(text.charAt(i));
    }

    static int read(AirByYard x, String text) {
        feed(x, text);
        return x.estuary();
    }

    static AirByYard with(String text) {
        AirByYard x = new AirByYard();
        due("estuary() of " + text, read(x, text), 0);
        return x;
    }

    /** What is taken is answered as due, from the least to the greatest; what is beyond is BAD. */
    static void takes(String call, int least, int most, IntUnaryOperator to, IntUnaryOperator want) {
        for (int n = least; n <= most; n++) {
            if (n < least + 3 || n > most - 3) due(call + " with " + n, to.applyAsInt(n), want.applyAsInt(n));
        }
        for (int n : beyond(least, most)) due(call + " with " + n, to.applyAsInt(n), BAD);
    }

    /** 7 of a KIND: of TALL 1 on a height each, of more all from 0 on. */
    static AirByYard seven(int kind, int tall, int hours) {
        AirByYard x = new AirByYard();
        for (int b = 0; b < 7; b++) x.bird(kind, b, tall == 1 ? b : 0, tall, b, hours);
        return x;
    }

    static AirByYard onDay(AirByYard x, int day) {
        for (int d = 60; d <= day; d += 60) x.pass(60);
        x.pass(day % 60);
        return x;
    }
}
