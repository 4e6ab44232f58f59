import java.util.Random;

/** The same calls to AirByYard and to Model, by seeds that are always the same; arguments: runs, first seed. */
final class ModelTest {
    private static final int MOST_CALLS = 512, MOST_AT_ONCE = 101;
    private final Random random;
    private final AirByYard x = new AirByYard();
    private final Model m = new Model();
    private final StringBuilder told = new StringBuilder();
    private int wrong = 0;
    private int calls = 0;

    private ModelTest(long seed) { random = new Random(seed); }

    public static void main(String[] args) {
        int runs = args.length > 0 ? Integer.parseInt(args[0]) : 250;
        long first = args.length > 1 ? Long.parseLong(args[1]) : 1;
        int wrong = 0;
        for (long seed = first; seed < first + runs; seed++) {
            ModelTest t = new ModelTest(seed);
            t.run();
            if (wrong == 0 && t.wrong > 0) System.out.println("seed " + seed + ":\n" + t.told);
            wrong += t.wrong;
        }
        System.out.println("ModelTest: " + (wrong == 0 ? "all answers are as due" : wrong + " answers are not as due"));
        if (wrong != 0) System.exit(1);
    }

    private void run() {
        int birds = random.nextInt(8);
        for (int b = 0; b < birds; b++) bird();
        if (random.nextInt(3) > 0) estuary();
        boolean few = random.nextBoolean();
        while (calls < MOST_CALLS - MOST_AT_ONCE && wrong == 0) {
            if (random.nextInt(30) == 0) estuary();
            else if (few && random.nextInt(3) > 0) ask();
            else any();
        }
    }

    private int n(int a, int b) { return a + random.nextInt(b - a + 1); }

    /** Mostly from a to b, now and then beyond. */
    private int w(int a, int b) {
        int r = random.nextInt(40);
        return r == 0 ? a - 1 : r == 1 ? b + 1 : r == 2 ? Integer.MIN_VALUE : r == 3 ? Integer.MAX_VALUE : n(a, b);
    }

    private void due(String call, long got, long want) {
        calls++;
        told.append(call).append(" -> ").append(got).append('\n');
        if (got != want) {
            wrong++;
            told.append("   due is ").append(want).append('\n');
        }
    }

    private void bird() {
        int k = w(0, 6), v = w(0, 9), l = w(0, 9), t = w(1, 10), f = w(0, 23), h = w(1, 24);
        if (random.nextBoolean()) {
            t = n(1, 3);
            h = n(1, 6);
        }
        due("bird(" + k + ", " + v + ", " + l + ", " + t + ", " + f + ", " + h + ")", x.bird(k, v, l, t, f, h),
            m.bird(k, v, l, t, f, h));
    }

    private void estuary() {
        String s = Texts.any(random);
        for (int i = 0; i < s.length(); i++) due("feed('" + s.charAt(i) + "')", x.feed(s.charAt(i)), m.feed(s.charAt(i)));
        due("estuary()", x.estuary(), m.estuary());
    }

    private int b() { return w(0, 6); }

    private void any() {
        switch (random.nextInt(25)) {
            case 0: bird(); break;
            case 1: { int b = b(), k = w(0, 4), v = k == 4 ? w(0, 9999) : k == 3 ? w(1, 24) : w(0, 10);
                due("set(" + b + ", " + k + ", " + v + ")", x.set(b, k, v), m.set(b, k, v)); break; }
            case 2: { int b = b(); boolean is = random.nextInt(3) == 0;
                due("evict(" + b + ", " + is + ")", x.evict(b, is), m.evict(b, is)); break; }
            case 3: { int b = b(), p = w(0, 3), v = w(0, 9);
                due("row(" + b + ", " + p + ", " + v + ")", x.row(b, p, v), m.row(b, p, v)); break; }
            case 4: { int s = random.nextInt(8) == 0 ? w(0, 127) : "dearchgintop 19;(!b<=>"
                    .charAt(random.nextInt(22)); due("feed(" + s + ")", x.feed(s), m.feed(s)); break; }
            case 5: { int d = random.nextInt(3) > 0 ? n(0, 5) : w(0, 60);
                due("pass(" + d + ")", x.pass(d), m.pass(d)); break; }
            case 6: case 7: { int h = w(0, 9), t = w(0, 23), d = n(0, 3) > 0 ? n(0, 4) : w(0, 20);
                boolean is = random.nextInt(3) == 0; if (random.nextInt(9) == 0) h = -1;
                due("see(" + h + ", " + t + ", " + is + ", " + d + ")", x.see(h, t, is, d), m.see(h, t, is, d)); break; }
            case 8: { int b = random.nextInt(9) == 0 ? -1 : b(), l = w(0, 9), f = w(0, 23);
                due("lease(" + b + ", " + l + ", " + f + ")", x.lease(b, l, f), m.lease(b, l, f)); break; }
            case 9: { int b = random.nextInt(12) == 0 ? -1 : b();
                int p = m.of(b, 6) >= 0 && random.nextInt(4) > 0 ? m.of(b, 6) : w(0, 9999);
                due("book(" + b + ", " + p + ")", x.book(b, p), m.book(b, p)); break; }
            case 10: due("image()", x.image(), m.image()); break;
            case 11: if (random.nextInt(4) == 0) due("undo()", x.undo(), m.undo()); break;
            case 12: case 13: { int b = b(), a = w(0, 2), v = random.nextInt(4) == 0 ? random.nextInt() : n(-9, 9);
                due("act(" + b + ", " + a + ", " + v + ")", x.act(b, a, v), m.act(b, a, v));
                for (int i = -1; i < 21; i++) due("trace(" + i + ")", x.trace(i), m.trace(i)); break; }
            case 14: { int t = w(0, 5), s = w(-1, 4), z = w(0, 60);
                if (random.nextBoolean()) { t = n(0, 2); s = 3; }
                due("tape(" + t + ", " + s + ", " + z + ")", x.tape(t, s, z), m.tape(t, s, z)); break; }
            case 15: { int t = w(0, 5), i = w(0, 60); long v = random.nextLong() >> random.nextInt(64);
                due("item(" + t + ", " + i + ", " + v + ")", x.item(t, i, v), m.item(t, i, v)); break; }
            case 16: { int t = n(0, 2), i = n(0, 10), k = n(0, 30);
                for (int h = 0; h < k; h++) { long v = m.free(h); due("item(" + t + ", " + (i + h) + ", " + v + ")",
                    x.item(t, i + h, v), m.item(t, i + h, v)); }
                due("judge(" + t + ", " + i + ")", x.judge(t, i), m.judge(t, i)); break; }
            case 17: { int t = w(0, 5), o = random.nextBoolean() ? t : w(0, 5), i = w(0, 20), j = w(0, 20), k = w(0, 20);
                due("shift(" + t + ", " + i + ", " + o + ", " + j + ", " + k + ")", x.shift(t, i, o, j, k),
                    m.shift(t, i, o, j, k));
                for (int r = 0; r < 60; r++) due("read(" + o + ", " + r + ")", x.read(o, r), m.read(o, r)); break; }
            default: ask(); break;
        }
    }

    private void ask() {
        int b = b(), o = b(), w = w(0, 1), h = w(0, 9), t = w(0, 23);
        switch (random.nextInt(24)) {
            case 0: { int k = w(0, 12); due("of(" + b + ", " + k + ")", x.of(b, k), m.of(b, k)); break; }
            case 1: { int k = w(0, 6); due("told(" + k + ")", x.told(k), m.told(k)); break; }
            case 2: due("held(" + h + ", " + t + ")", x.held(h, t), m.held(h, t)); break;
            case 3: due("free(" + t + ")", x.free(t), m.free(t)); break;
            case 4: due("clash(" + b + ", " + o + ")", x.clash(b, o), m.clash(b, o)); break;
            case 5: due("worst()", x.worst(), m.worst()); break;
            case 6: { int d = w(0, 60), k = random.nextBoolean() ? w(0, 1) : w(10, 26);
                due("on(" + d + ", " + k + ")", x.on(d, k), m.on(d, k)); break; }
            case 7: due("empty(" + b + ")", x.empty(b), m.empty(b)); break;
            case 8: due("lower(" + b + ", " + w + ")", x.lower(b, w), m.lower(b, w)); break;
            case 9: due("sooner(" + b + ", " + w + ")", x.sooner(b, w), m.sooner(b, w)); break;
            case 10: due("let(" + w + ")", x.let(w), m.let(w)); break;
            case 11: due("whoEvict()", x.whoEvict(), m.whoEvict()); break;
            case 12: due("ways(" + h + ")", x.ways(h), m.ways(h)); break;
            case 13: due("outs(" + h + ")", x.outs(h), m.outs(h)); break;
            case 14: case 15: due("can(" + b + ", " + w + ")", x.can(b, w), m.can(b, w)); break;
            case 16: due("odds(" + t + ", " + w + ")", x.odds(t, w), m.odds(t, w)); break;
            case 17: due("mean(" + w + ")", x.mean(w), m.mean(w)); break;
            case 18: due("leased(" + w + ")", x.leased(w), m.leased(w)); break;
            case 19: due("looked()", x.looked(), m.looked()); break;
            case 20: { int p = w(0, 5), i = w(0, 40); due("judge(" + p + ", " + i + ")", x.judge(p, i), m.judge(p, i)); break; }
            case 21: { int k = w(0, 6); due("taken(" + b + ", " + k + ")", x.taken(b, k), m.taken(b, k)); break; }
            case 22: { int k = w(0, 6); due("count(" + k + ")", x.count(k), m.count(k)); break; }
            default: { int p = w(0, 5), i = w(0, 60); due("read(" + p + ", " + i + ")", x.read(p, i), m.read(p, i)); break; }
        }
    }

    /** Texts of estuaries, most of them whole, some spoilt. */
    static final class Texts {
        static String any(Random r) {
            StringBuilder s = new StringBuilder();
            int clauses = r.nextInt(12) == 0 ? 11 : 1 + r.nextInt(4);
            for (int c = 0; c < clauses; c++) {
                if (c > 0) s.append(';');
                String clause = clause(r, clauses);
                if (s.length() + clause.length() < 98) s.append(clause); else s.append("gain 7");
            }
            int spoil = r.nextInt(10);
            if (s.length() == 0) return "";
            int at = r.nextInt(s.length());
            if (spoil == 0) s.setLength(at);
            if (spoil == 1) s.deleteCharAt(at);
            if (spoil == 2) s.setCharAt(at, ";&|!()b<9 dt".charAt(r.nextInt(12)));
            if (spoil == 3) s.insert(at, ";&|!()b<9 dt".charAt(r.nextInt(12)));
            return s.length() > 100 ? s.substring(0, 100) : s.toString();
        }

        private static String clause(Random r, int clauses) {
            if (clauses > 5) return "top " + r.nextInt(100);
            switch (r.nextInt(6)) {
                case 0: return "gain " + r.nextInt(100);
                case 1: return "top " + (r.nextInt(3) > 0 ? 5 + r.nextInt(5) : r.nextInt(100));
                case 2: return "cheap " + r.nextInt(12) + " " + e(r, 0);
                default: return "dear " + r.nextInt(r.nextBoolean() ? 12 : 100) + " " + e(r, 0);
            }
        }

        private static String e(Random r, int d) { return r.nextInt(3) > 0 ? t(r, d) : t(r, d) + "|" + e(r, d); }
        private static String t(Random r, int d) { return r.nextInt(3) > 0 ? f(r, d) : f(r, d) + "&" + t(r, d); }

        private static String f(Random r, int d) {
            int k = r.nextInt(5);
            if (k == 0 && d < 5) return "!" + f(r, d + 1);
            if (k == 1 && d < 5) return "(" + e(r, d + 1) + ")";
            int n = r.nextInt(4) == 0 ? r.nextInt(100) : r.nextInt(10);
            return "" + "bkvlfd".charAt(r.nextInt(6)) + "<=>".charAt(r.nextInt(3)) + n;
        }
    }
}
