import java.util.ArrayList;
import java.util.HashMap;
import java.util.List;
import java.util.Map;

/** The document once more, strip by strip and as plain as can be, to compare AirByYard with. */
final class Model {
    static final int NONE = -1, BAD = -2, STATE = -3, FULL = -4;
    static final long NO = Long.MIN_VALUE;

    World now = new World();
    World image = null;
    StringBuilder text = new StringBuilder();
    List<String> estuaries = new ArrayList<>();
    Tape[] tapes = new Tape[6];
    List<Integer> trace = new ArrayList<>();

    static class World {
        List<Kind> birds = new ArrayList<>();
        int day = 0;
        String holding = null;
        List<int[]> seen = new ArrayList<>(), leases = new ArrayList<>(), book = new ArrayList<>();

        World copy() {
            World w = new World();
            for (Kind k : birds) w.birds.add(k.copy());
            w.day = day;
            w.holding = holding;
            for (int[] r : seen) w.seen.add(r.clone());
            for (int[] r : leases) w.leases.add(r.clone());
            for (int[] r : book) w.book.add(r.clone());
            return w;
        }

        private static final Map<String, String[]> CUT = new HashMap<>();
        private static final Map<String, Integer> TOPS = new HashMap<>();

        int top() {
            if (holding == null) return 10;
            Integer old = TOPS.get(holding);
            if (old != null) return old;
            int top = 10;
            for (String c : clauses()) {
                if (c.startsWith("top ")) top = Math.min(10, Math.max(1, Integer.parseInt(c.substring(4))));
            }
            TOPS.put(holding, top);
            return top;
        }

        int gain() {
            int gain = 0;
            for (String c : clauses()) {
                if (c.startsWith("gain ")) gain = Integer.parseInt(c.substring(5));
            }
            return gain;
        }

        String[] clauses() {
            return holding == null ? new String[0] : CUT.computeIfAbsent(holding, h -> h.split(";"));
        }

        int price(Kind b) {
            int sum = 1;
            for (String c : clauses()) {
                String[] part = c.split(" ");
                if (part[0].equals("dear") && Grammar.holds(part[2], b, day)) sum += Integer.parseInt(part[1]);
                if (part[0].equals("cheap") && Grammar.holds(part[2], b, day)) sum -= Integer.parseInt(part[1]);
            }
            return Math.max(sum, 0);
        }

        boolean isHigh(Kind b, int height) {
            if (height < 0 || height >= top()) return false;
            return b.column() ? height >= b.bottom() : height >= b.bottom() && height < b.bottom() + b.tall;
        }

        boolean isThen(Kind b, int hour) {
            for (int h = 0; h < b.hours; h++) if ((b.begins(day) + h) % 24 == hour) return true;
            return false;
        }

        boolean holds(Kind b, int height, int hour) {
            return !b.out && isHigh(b, height) && isThen(b, hour);
        }

        int strips(Kind b) {
            int heights = 0, hours = 0;
            for (int h = 0; h < 10; h++) if (isHigh(b, h)) heights++;
            for (int t = 0; t < 24; t++) if (isThen(b, t)) hours++;
            return b.out ? 0 : heights * hours;
        }

        int rent(Kind b) {
            int r = strips(b) * price(b);
            return b.half() ? r / 2 : r;
        }

        int rentAll() {
            int n = 0;
            for (Kind b : birds) n += rent(b);
            return n;
        }

        int outs() {
            int bits = 0;
            for (int i = 0; i < birds.size(); i++) if (birds.get(i).out) bits |= 1 << i;
            return bits;
        }

        int held(int height, int hour) {
            int bits = 0;
            for (int i = 0; i < birds.size(); i++) if (holds(birds.get(i), height, hour)) bits |= 1 << i;
            return bits;
        }

        int free(int hour) {
            int bits = 0;
            for (int h = 0; h < top(); h++) if (held(h, hour) == 0) bits |= 1 << h;
            return bits;
        }

        int crowded() {
            int n = 0;
            for (int h = 0; h < top(); h++) {
                for (int t = 0; t < 24; t++) if (Integer.bitCount(held(h, t)) >= 2) n++;
            }
            return n;
        }

        int clash(int a, int b) {
            int n = 0;
            for (int h = 0; h < top(); h++) {
                for (int t = 0; t < 24; t++) if (holds(birds.get(a), h, t) && holds(birds.get(b), h, t)) n++;
            }
            return n;
        }

        boolean peace(int set) {
            for (int a = 0; a < birds.size(); a++) {
                for (int b = a + 1; b < birds.size(); b++) {
                    if ((set >> a & 1) == 1 && (set >> b & 1) == 1 && clash(a, b) > 0) return false;
                }
            }
            return true;
        }

        /** How many of one's strips others hold, too. */
        int shared(int one) {
            int n = 0;
            for (int h = 0; h < top(); h++) {
                for (int t = 0; t < 24; t++) {
                    int who = held(h, t);
                    if ((who >> one & 1) == 1 && who != 1 << one) n++;
                }
            }
            return n;
        }

        void go() {
            int[] rent = new int[birds.size()];
            for (int i = 0; i < rent.length; i++) rent[i] = rent(birds.get(i));
            for (int i = 0; i < rent.length; i++) {
                Kind b = birds.get(i);
                if (b.out) continue;
                int left = b.purse + gain() - rent[i];
                if (left < 0) {
                    b.out = true;
                    left = 0;
                }
                b.purse = Math.min(9999, left);
            }
            day++;
        }

        World on(int n) {
            World w = copy();
            for (int i = 0; i < n; i++) w.go();
            return w;
        }
    }

    // ---- the kinds, as Java's own classes

    static class Kind {
        int number, kind, v, low, tall, from, hours, purse = 100;
        int[] row = new int[4];
        boolean out;
        List<Integer> trace;

        static Kind make(int kind) {
            switch (kind) {
                case 0: return new Kind();
                case 1: return new Singer();
                case 2: return new High();
                case 3: return new Late();
                case 4: return new Lark();
                case 5: return new Hawk();
                default: return new Told();
            }
        }

        Kind copy() {
            Kind c = make(kind);
            c.number = number; c.kind = kind; c.v = v; c.low = low; c.tall = tall; c.from = from;
            c.hours = hours; c.purse = purse; c.out = out; c.row = row.clone(); c.trace = trace;
            return c;
        }

        void runs(int body) { trace.add(body); }
        int bottom() { return low; }
        int begins(int day) { return from; }
        boolean column() { return false; }
        boolean half() { return false; }
        int flies(int x) { runs(10); return x + number; }
        int sings(int x) { runs(11); return flies(x) - v; }
        int tells(int x) { runs(12); return sings(x) * 2; }
    }

    static class Singer extends Kind {
        boolean half() { return true; }
        int sings(int x) { runs(20); return super.sings(x) ^ 6; }
    }

    static class High extends Kind {
        int bottom() { return low + 2; }
        int flies(int x) { runs(30); return super.flies(x * 3); }
    }

    static class Late extends Kind {
        int begins(int day) { return (from + (day % 2 == 1 ? 1 : 0)) % 24; }
        int tells(int x) { runs(40); return super.tells(x) + sings(1); }
    }

    static class Lark extends Singer {
        boolean column() { return true; }
        int flies(int x) { runs(50); return -super.flies(x); }
        int sings(int x) { runs(51); return super.sings(x + 1); }
    }

    static class Hawk extends High {
        int begins(int day) { return (from + day % 3) % 24; }
        int tells(int x) { runs(60); return super.tells(x - number); }
    }

    static class Told extends Late {
        int begins(int day) { return (super.begins(day) + row[day % 4]) % 24; }
        int sings(int x) { runs(70); return super.sings(x) + super.flies(2); }
        int flies(int x) { runs(71); return super.flies(x) ^ v; }
    }

    // ---- the grammar, by trying every way to cut a text

    static final class Grammar {
        private final String s;
        private final Map<String, Boolean> known = new HashMap<>();

        Grammar(String s) { this.s = s; }

        static boolean isEstuary(String s) {
            String[] c = s.split(";", -1);
            if (c.length > 10) return false;
            for (String one : c) {
                if (one.matches("(gain|top) [0-9]{1,2}")) continue;
                if (!one.matches("(dear|cheap) [0-9]{1,2} [^ ]+")) return false;
                String e = one.substring(one.lastIndexOf(' ') + 1);
                if (!new Grammar(e).is('E', 0, e.length(), 0)) return false;
            }
            return true;
        }

        /** Whether s from i to j is an E, a T or an F within d others. */
        boolean is(char what, int i, int j, int d) {
            if (i >= j) return false;
            String key = what + " " + i + " " + j + " " + d;
            Boolean old = known.get(key);
            if (old != null) return old;
            boolean yes = false;
            if (what == 'E' || what == 'T') {
                char mark = what == 'E' ? '|' : '&', inner = what == 'E' ? 'T' : 'F';
                yes = is(inner, i, j, d);
                for (int k = i; k < j && !yes; k++) yes = s.charAt(k) == mark && is(inner, i, k, d) && is(what, k + 1, j, d);
            } else {
                yes = s.substring(i, j).matches("[bkvlfd][<=>][0-9]{1,2}");
                if (!yes && d < 4) {
                    yes = s.charAt(i) == '!' && is('F', i + 1, j, d + 1)
                        || s.charAt(i) == '(' && s.charAt(j - 1) == ')' && is('E', i + 1, j - 1, d + 1);
                }
            }
            known.put(key, yes);
            return yes;
        }

        private static final Map<String, Grammar> READ = new HashMap<>();

        static boolean holds(String e, Kind b, int day) {
            return READ.computeIfAbsent(e, Grammar::new).value('E', 0, e.length(), 0, b, day);
        }

        private boolean value(char what, int i, int j, int d, Kind b, int day) {
            if (what == 'E' || what == 'T') {
                char mark = what == 'E' ? '|' : '&', inner = what == 'E' ? 'T' : 'F';
                if (is(inner, i, j, d)) return value(inner, i, j, d, b, day);
                for (int k = i; k < j; k++) {
                    if (s.charAt(k) == mark && is(inner, i, k, d) && is(what, k + 1, j, d)) {
                        boolean left = value(inner, i, k, d, b, day), right = value(what, k + 1, j, d, b, day);
                        return what == 'E' ? left || right : left && right;
                    }
                }
                throw new IllegalStateException(s);
            }
            if (s.charAt(i) == '!') return !value('F', i + 1, j, d + 1, b, day);
            if (s.charAt(i) == '(') return value('E', i + 1, j - 1, d + 1, b, day);
            int n = Integer.parseInt(s.substring(i + 2, j));
            int has = new int[] {b.number, b.kind, b.v, b.low, b.from, day % 10}["bkvlfd".indexOf(s.charAt(i))];
            return s.charAt(i + 1) == '<' ? has < n : s.charAt(i + 1) == '=' ? has == n : has > n;
        }

        private static final String[] ENDS = {
            "", "dear 1 b=1", "ear 1 b=1", "ar 1 b=1", "r 1 b=1", " 1 b=1", "1 b=1", " b=1", "b=1", "=1", "1",
            "heap 1 b=1", "eap 1 b=1", "ap 1 b=1", "p 1 b=1", "ain 1", "in 1", "n 1", " 1", "op 1", "p 1",
        };

        static boolean begins(String s) {
            for (String end : ENDS) {
                for (int k = 0; k <= 4; k++) {
                    if (isEstuary(s + end + ")".repeat(k))) return true;
                }
            }
            return false;
        }

        /** The FAULT, or -1. */
        static int fault(String s) {
            for (int i = 0; i < s.length(); i++) if (!begins(s.substring(0, i + 1))) return i;
            return isEstuary(s) ? -1 : s.length();
        }
    }

    // ---- the calls

    private static boolean in(int n, int a, int b) { return n >= a && n <= b; }
    private Kind at(int b) { return b >= 0 && b < now.birds.size() ? now.birds.get(b) : null; }

    int bird(int kind, int v, int low, int tall, int from, int hours) {
        if (!in(kind, 0, 6)) return NONE;
        if (!in(v, 0, 9) || !in(low, 0, 9) || !in(tall, 1, 10) || !in(from, 0, 23) || !in(hours, 1, 24)) return BAD;
        if (now.birds.size() == 7) return FULL;
        Kind k = Kind.make(kind);
        k.number = now.birds.size(); k.kind = kind; k.v = v; k.low = low; k.tall = tall; k.from = from; k.hours = hours;
        now.birds.add(k);
        return k.number;
    }

    int of(int bird, int what) {
        Kind b = at(bird);
        if (b == null || !in(what, 0, 12)) return NONE;
        return new int[] {b.kind, b.v, b.low, b.tall, b.from, b.hours, b.purse, b.out ? 1 : 0, b.bottom(),
            b.begins(now.day), now.price(b), now.strips(b), now.rent(b)}[what];
    }

    int set(int bird, int what, int n) {
        Kind b = at(bird);
        if (b == null || !in(what, 0, 4)) return NONE;
        if (!in(n, new int[] {0, 1, 0, 1, 0}[what], new int[] {9, 10, 23, 24, 9999}[what])) return BAD;
        int was = new int[] {b.low, b.tall, b.from, b.hours, b.purse}[what];
        if (what == 0) b.low = n;
        if (what == 1) b.tall = n;
        if (what == 2) b.from = n;
        if (what == 3) b.hours = n;
        if (what == 4) b.purse = n;
        return was;
    }

    int evict(int bird, boolean is) {
        Kind b = at(bird);
        if (b == null) return NONE;
        int was = b.out ? 1 : 0;
        b.out = is;
        return was;
    }

    int row(int bird, int part, int n) {
        Kind b = at(bird);
        if (b == null || !in(part, 0, 3)) return NONE;
        if (!in(n, 0, 9)) return BAD;
        if (b.kind != 6) return STATE;
        int was = b.row[part];
        b.row[part] = n;
        return was;
    }

    int feed(int sign) {
        if (!in(sign, 0, 127)) return BAD;
        if (text.length() == 100) return FULL;
        text.append((char) sign);
        return text.length();
    }

    int estuary() {
        if (estuaries.size() == 6) return FULL;
        String s = text.toString();
        text.setLength(0);
        int fault = Grammar.fault(s);
        if (fault >= 0) return -10 - fault;
        estuaries.add(s);
        now.holding = s;
        return estuaries.size() - 1;
    }

    int told(int what) {
        switch (what) {
            case 0: return now.day;
            case 1: return now.gain();
            case 2: return now.top();
            case 3: return now.outs();
            case 4: {
                int n = 0;
                for (int t = 0; t < 24; t++) n += Integer.bitCount(now.free(t));
                return n;
            }
            case 5: return now.crowded();
            case 6: return now.rentAll();
            default: return NONE;
        }
    }

    int held(int height, int hour) {
        return in(height, 0, now.top() - 1) && in(hour, 0, 23) ? now.held(height, hour) : NONE;
    }

    int free(int hour) { return in(hour, 0, 23) ? now.free(hour) : NONE; }

    int clash(int one, int other) {
        if (at(one) == null || at(other) == null) return NONE;
        return one == other ? BAD : now.clash(one, other);
    }

    int worst() {
        int most = 0, pair = -5;
        for (int a = now.birds.size() - 1; a >= 0; a--) {
            for (int b = now.birds.size() - 1; b > a; b--) {
                int c = now.clash(a, b);
                if (c > 0 && c >= most) {
                    most = c;
                    pair = 10 * a + b;
                }
            }
        }
        return pair;
    }

    int pass(int n) {
        if (!in(n, 0, 60)) return BAD;
        if (now.day + n > 9999) return STATE;
        for (int i = 0; i < n; i++) now.go();
        return now.day;
    }

    int on(int n, int what) {
        boolean one = what >= 10 && at(what - 10) != null, two = what >= 20 && at(what - 20) != null;
        if (what != 0 && what != 1 && !one && !two) return NONE;
        if (!in(n, 0, 60)) return BAD;
        World w = now.on(n);
        if (what == 0) return w.outs();
        if (what == 1) return w.rentAll();
        return one ? w.birds.get(what - 10).purse : w.rent(w.birds.get(what - 20));
    }

    int empty(int bird) {
        if (at(bird) == null) return NONE;
        World w = now.copy();
        for (int n = 0; n <= 99; n++) {
            if (w.birds.get(bird).out) return n;
            w.go();
        }
        return -5;
    }

    int lower(int bird, int what) { return bestOf(bird, what, 10); }

    int sooner(int bird, int what) { return bestOf(bird, what, 24); }

    private int bestOf(int bird, int what, int n) {
        if (at(bird) == null || !in(what, 0, 1)) return NONE;
        int best = 0, least = Integer.MAX_VALUE;
        for (int i = 0; i < n; i++) {
            World w = now.copy();
            if (n == 10) w.birds.get(bird).low = i; else w.birds.get(bird).from = i;
            int s = w.shared(bird);
            if (s < least) {
                least = s;
                best = i;
            }
        }
        return what == 0 ? best : least;
    }

    int let(int what) {
        if (!in(what, 0, 1)) return NONE;
        int best = 0, most = -1;
        for (int set = 0; set < 1 << now.birds.size(); set++) {
            if ((set & now.outs()) != 0 || !now.peace(set)) continue;
            int sum = 0;
            for (int b = 0; b < now.birds.size(); b++) if ((set >> b & 1) == 1) sum += now.rent(now.birds.get(b));
            if (sum > most) {
                most = sum;
                best = set;
            }
        }
        return what == 0 ? best : most;
    }

    int whoEvict() {
        int all = (1 << now.birds.size()) - 1;
        for (int k = 0; k <= 7; k++) {
            for (int set = 0; set <= all; set++) if (Integer.bitCount(set) == k && now.peace(all & ~set)) return set;
        }
        throw new IllegalStateException();
    }

    long ways(int height) {
        if (!in(height, 0, now.top() - 1)) return NO;
        long[][] from = new long[25][12];
        for (int h = 0; h < 10; h++) from[24][h + 1] = 1;
        for (int t = 23; t >= 0; t--) {
            for (int h = 0; h < 10; h++) {
                boolean free = h < now.top() && now.held(h, t) == 0;
                long on = t == 23 ? 1 : from[t + 1][h] + from[t + 1][h + 1] + from[t + 1][h + 2];
                from[t][h + 1] = free ? on : 0;
            }
        }
        return from[0][height + 1];
    }

    int outs(int height) {
        if (!in(height, 0, now.top() - 1)) return NONE;
        boolean[][] can = new boolean[24][10];
        can[0][height] = now.held(height, 0) == 0;
        for (int t = 1; t < 24; t++) {
            for (int h = 0; h < now.top(); h++) {
                boolean from = can[t - 1][h] || h > 0 && can[t - 1][h - 1] || h < 9 && can[t - 1][h + 1];
                can[t][h] = from && now.held(h, t) == 0;
            }
        }
        int bits = 0;
        for (int h = 0; h < 10; h++) if (can[23][h]) bits |= 1 << h;
        return bits;
    }

    int see(int height, int hour, boolean isHeld, int n) {
        if (height == -1) {
            now.seen.clear();
            return 0;
        }
        if (!in(height, 0, 9) || !in(hour, 0, 23) || !in(n, 0, 20)) return BAD;
        if (now.seen.size() == 5) return FULL;
        now.seen.add(new int[] {height, hour, isHeld ? 1 : 0, n});
        return now.seen.size();
    }

    int can(int bird, int what) {
        if (at(bird) == null || !in(what, 0, 1)) return NONE;
        int n = 0, least = -5;
        for (int low = 9; low >= 0; low--) {
            World w = now.copy();
            w.birds.get(bird).low = low;
            boolean so = true;
            for (int[] r : now.seen) so &= (w.on(r[3]).held(r[0], r[1]) != 0) == (r[2] == 1);
            if (so) {
                n++;
                least = low;
            }
        }
        return what == 0 ? n : least;
    }

    private static long part(long a, long b, int part) {
        for (long d = b; d > 1; d--) {
            if (a % d == 0 && b % d == 0) return part == 0 ? a / d : b / d;
        }
        return part == 0 ? a : b;
    }

    long odds(int hour, int part) {
        if (!in(hour, 0, 23) || !in(part, 0, 1)) return NO;
        return part(Integer.bitCount(now.free(hour)), now.top(), part);
    }

    long mean(int part) {
        int n = 0;
        for (Kind b : now.birds) if (!b.out) n++;
        return n == 0 || !in(part, 0, 1) ? NO : part(now.rentAll(), n, part);
    }

    int lease(int bird, int low, int from) {
        if (bird == -1) {
            now.leases.clear();
            return 0;
        }
        if (at(bird) == null) return NONE;
        if (!in(low, 0, 9) || !in(from, 0, 23)) return BAD;
        if (now.leases.size() == 6) return FULL;
        now.leases.add(new int[] {bird, low, from});
        return now.leases.size();
    }

    int leased(int what) {
        if (!in(what, 0, 1)) return NONE;
        World w = now.copy();
        for (int[] r : now.leases) {
            w.birds.get(r[0]).low = r[1];
            w.birds.get(r[0]).from = r[2];
        }
        return what == 0 ? w.crowded() : w.rentAll();
    }

    int book(int bird, int purse) {
        if (bird == -1) {
            now.book.clear();
            return 0;
        }
        if (at(bird) == null) return NONE;
        if (!in(purse, 0, 9999)) return BAD;
        if (now.book.size() == 8) return FULL;
        now.book.add(new int[] {bird, purse});
        return now.book.size();
    }

    int looked() {
        for (int r = 0; r < now.book.size(); r++) {
            if (now.birds.get(now.book.get(r)[0]).purse != now.book.get(r)[1]) return r;
        }
        return -5;
    }

    int judge(int tape, int i) {
        if (!in(tape, 0, 5)) return NONE;
        Tape t = tapes[tape];
        if (t != null && t.sort != 3) return -12;
        if (t == null || i < 0) return 100;
        for (int h = 0; h < 24; h++) {
            if ((long) i + h >= t.items.length) return 100 + h;
            if (t.items[i + h] != now.free(h)) return h;
        }
        return -5;
    }

    int image() {
        image = now.copy();
        return now.birds.size();
    }

    int undo() {
        if (image == null) return STATE;
        now = image.copy();
        return now.birds.size();
    }

    int act(int bird, int act, int x) {
        trace = new ArrayList<>();
        Kind b = at(bird);
        if (b == null || !in(act, 0, 2)) return 0;
        b.trace = trace;
        return act == 0 ? b.flies(x) : act == 1 ? b.sings(x) : b.tells(x);
    }

    int trace(int i) { return i >= 0 && i < 20 && i < trace.size() ? trace.get(i) : NONE; }

    int taken(int bird, int k) {
        if (!in(k, 0, 6)) return BAD;
        Kind b = at(bird);
        if (b == null) return -11;
        return Kind.make(k).getClass().isInstance(b) ? b.kind : -12;
    }

    int count(int what) {
        if (!in(what, 0, 6)) return BAD;
        return new int[] {now.birds.size(), estuaries.size(), now.seen.size(), now.leases.size(), now.book.size(),
            text.length(), trace.size()}[what];
    }

    static final class Tape {
        final int sort;
        final long[] items;

        Tape(int sort, int n) {
            this.sort = sort;
            items = new long[n];
        }
    }

    int tape(int tape, int sort, int n) {
        if (!in(tape, 0, 5)) return NONE;
        if (!in(sort, -1, 4)) return BAD;
        if (sort >= 0 && n > 60) return BAD;
        if (sort >= 0 && n < 0) return -14;
        tapes[tape] = sort < 0 ? null : new Tape(sort, n);
        return 1;
    }

    int item(int tape, int i, long v) {
        if (!in(tape, 0, 5)) return NONE;
        Tape t = tapes[tape];
        if (t == null) return -11;
        if (!in(i, 0, t.items.length - 1)) return -13;
        t.items[i] = t.sort == 0 ? (byte) v : t.sort == 1 ? (short) v : t.sort == 2 ? (int) v : t.sort == 3 ? v
            : v != 0 ? 1 : 0;
        return 1;
    }

    long read(int tape, int i) {
        if (!in(tape, 0, 5) || tapes[tape] == null || !in(i, 0, tapes[tape].items.length - 1)) return NO;
        return tapes[tape].items[i];
    }

    int shift(int tape, int i, int other, int j, int n) {
        if (!in(tape, 0, 5) || !in(other, 0, 5)) return NONE;
        Tape a = tapes[tape], b = tapes[other];
        if (a == null || b == null) return -11;
        if (a.sort != b.sort) return -12;
        if (n < 0 || i < 0 || j < 0 || (long) i + n > a.items.length || (long) j + n > b.items.length) return -13;
        long[] were = a.items.clone();
        for (int k = 0; k < n; k++) b.items[j + k] = were[i + k];
        return n;
    }
}
