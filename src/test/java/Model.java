import java.util.ArrayList;
import java.util.HashMap;
import java.util.HashSet;
import java.util.List;
import java.util.Map;
import java.util.Set;
import java.util.function.IntBinaryOperator;
import java.util.regex.Matcher;
import java.util.regex.Pattern;

/** The document once more, written apart from the class, by trying everything and copying everything. */
final class Model {
    static final int NONE = -1, BAD = -2, NO = -3, FULL = -4;

    record Bend(int yards, int truth, int note, int words, boolean mud) {
        int holds() {
            return Math.max(1, mud ? truth - 1 : truth);
        }

        Bend noted(int n) {
            return new Bend(yards, truth, n, words, mud);
        }

        Bend muddied(boolean is) {
            return new Bend(yards, truth, note, words, is);
        }
    }

    record Step(int bend, int seconds, int crashes, List<Integer> notes) {
    }

    record State(List<Bend> bends, int kind, int fog, int bend, int seconds, int crashes, List<Integer> felt,
            List<int[]> paces, List<Step> steps) {
    }

    State s = fresh(0, 0);
    final State[] images = new State[2];
    String text = "";
    long above = 0, below = 1;
    final int[] status = new int[3];

    static State fresh(int kind, int fog) {
        return new State(List.of(), kind, fog, 0, 0, 0, List.of(), List.of(), List.of());
    }

    static <T> List<T> plus(List<T> list, T x) {
        List<T> longer = new ArrayList<>(list);
        longer.add(x);
        return List.copyOf(longer);
    }

    static <T> List<T> with(List<T> list, int i, T x) {
        List<T> other = new ArrayList<>(list);
        other.set(i, x);
        return List.copyOf(other);
    }

    int no(int why) {
        status[-2 - why]++;
        return why;
    }

    static boolean in(int v, int a, int z) {
        return a <= v && v <= z;
    }

    boolean isBend(int b) {
        return in(b, 0, s.bends.size() - 1);
    }

    static int pace(int kind, int n, int t, int f, boolean mud) {
        int plain = n == 0 ? 2 : n;
        return switch (kind) {
            case 0 -> plain;
            case 1 -> f <= 3 ? t : pace(0, n, t, f, mud);
            case 2 -> Math.min(7, pace(0, n, t, f, mud) + 1);
            case 3 -> Math.max(1, pace(0, n, t, f, mud) - 1);
            case 4 -> pace(3, n, t, f, mud) + (f < 7 ? 1 : 0);
            default -> mud ? Math.max(1, pace(2, n, t, f, mud) - 2) : pace(2, n, t, f, mud);
        };
    }

    static int costOf(int pace, int holds) {
        int over = pace - holds;
        if (over < 0) return -3 * over;
        return over == 0 ? 0 : over == 1 ? 7 : 60;
    }

    static int cost(State s, Bend b, int note) {
        return costOf(pace(s.kind, note, b.holds(), s.fog, b.mud), b.holds());
    }

    int cost(int b, int note) {
        return cost(s, s.bends.get(b), note);
    }

    int cost(int b) {
        return cost(b, s.bends.get(b).note);
    }

    static State driven(State s) {
        Bend b = s.bends.get(s.bend);
        int cost = cost(s, b, b.note);
        return new State(s.bends, s.kind, s.fog, s.bend + 1, s.seconds + b.yards + cost,
                s.crashes + (cost == 60 ? 1 : 0), s.felt, s.paces, s.steps);
    }

    static State withBends(State s, List<Bend> bends, List<Step> steps) {
        return new State(bends, s.kind, s.fog, s.bend, s.seconds, s.crashes, s.felt, s.paces, steps);
    }

    List<Step> stepsOn() {
        List<Step> steps = plus(s.steps, new Step(s.bend, s.seconds, s.crashes, s.bends.stream().map(Bend::note).toList()));
        return steps.size() > 8 ? List.copyOf(steps.subList(1, 9)) : steps;
    }

    int road(int kind, int fog) {
        if (!in(kind, 0, 5) || !in(fog, 0, 9)) return no(BAD);
        int was = s.bends.size();
        s = fresh(kind, fog);
        return was;
    }

    int bend(int y, int t, int n, int w) {
        if (!in(y, 1, 9) || !in(t, 1, 6) || !in(n, 0, 6) || !in(w, 1, 9)) return no(BAD);
        if (s.bends.size() == 8) return no(FULL);
        s = withBends(s, plus(s.bends, new Bend(y, t, n, w, false)), List.of());
        return s.bends.size() - 1;
    }

    int mud(int b, int is) {
        if (!isBend(b) || !in(is, 0, 1)) return no(BAD);
        boolean was = s.bends.get(b).mud;
        s = withBends(s, with(s.bends, b, s.bends.get(b).muddied(is == 1)), List.of());
        return was ? 1 : 0;
    }

    int driver(int kind, int fog) {
        if (!in(kind, 0, 5) || !in(fog, 0, 9)) return no(BAD);
        s = new State(s.bends, kind, fog, s.bend, s.seconds, s.crashes, s.felt, s.paces, List.of());
        return 1;
    }

    int type(int c) {
        if (!in(c, 0, 127)) return no(BAD);
        if (text.length() == 150) return no(FULL);
        text += (char) c;
        return text.length();
    }

    int clear() {
        int was = text.length();
        text = "";
        return was;
    }

    private static final Pattern TOKEN = Pattern.compile(" *+([a-z]++|[0-9]++|;|[^ ])", Pattern.DOTALL);

    int read() {
        List<String> tokens = new ArrayList<>();
        List<Integer> places = new ArrayList<>();
        Matcher m = TOKEN.matcher(text);
        while (m.find()) {
            tokens.add(m.group(1));
            places.add(m.start(1));
        }
        places.add(text.length());
        State t = null;
        int items = 0;
        int i = 0;
        while (i < tokens.size() || items == 0) {
            if (i == tokens.size()) return -10 - places.get(i);
            String word = tokens.get(i);
            int[][] form = form(t, word);
            if (form == null) return -10 - places.get(i);
            int[] got = new int[form.length];
            for (int k = 0; k < form.length; k++) {
                i++;
                if (i == tokens.size() || !tokens.get(i).matches("[0-9][0-9]?")) return -10 - places.get(i);
                got[k] = Integer.parseInt(tokens.get(i));
                if (!in(got[k], form[k][0], form[k][1])) return -10 - places.get(i);
            }
            i++;
            if (i == tokens.size() || !tokens.get(i).equals(";")) return -10 - places.get(i);
            i++;
            items++;
            t = after(t, word, got);
        }
        s = t;
        return items;
    }

    private static int[][] form(State t, String word) {
        if (t == null) return word.equals("road") ? new int[][] {{0, 5}, {0, 9}} : null;
        int size = t.bends.size();
        return switch (word) {
            case "bend" -> size == 8 ? null : new int[][] {{1, 9}, {1, 6}, {0, 6}, {1, 9}};
            case "mud" -> new int[][] {{0, size - 1}};
            case "drive" -> new int[][] {{1, Math.min(8, size - t.bend)}};
            default -> null;
        };
    }

    private static State after(State t, String word, int[] a) {
        if (word.equals("road")) return fresh(a[0], a[1]);
        if (word.equals("bend")) return withBends(t, plus(t.bends, new Bend(a[0], a[1], a[2], a[3], false)), List.of());
        if (word.equals("mud")) return withBends(t, with(t.bends, a[0], t.bends.get(a[0]).muddied(true)), List.of());
        State on = t;
        for (int k = 0; k < a[0]; k++) on = driven(on);
        return on;
    }

    int drive(int n) {
        if (!in(n, 1, 8)) return no(BAD);
        if (s.bend + n > s.bends.size()) return no(NO);
        int was = s.seconds;
        s = withBends(s, s.bends, stepsOn());
        for (int k = 0; k < n; k++) s = driven(s);
        return s.seconds - was;
    }

    int write(int b, int note) {
        if (!isBend(b) || !in(note, 0, 6)) return no(BAD);
        int was = s.bends.get(b).note;
        s = withBends(s, with(s.bends, b, s.bends.get(b).noted(note)), stepsOn());
        return was;
    }

    int undo() {
        if (s.steps.isEmpty()) return no(NO);
        int last = s.steps.size() - 1;
        Step step = s.steps.get(last);
        List<Bend> bends = new ArrayList<>();
        for (int b = 0; b < s.bends.size(); b++) bends.add(s.bends.get(b).noted(step.notes.get(b)));
        s = new State(List.copyOf(bends), s.kind, s.fog, step.bend, step.seconds, step.crashes, s.felt, s.paces,
                List.copyOf(s.steps.subList(0, last)));
        return s.bend;
    }

    int of(int b, int what) {
        if (!isBend(b) || !in(what, 0, 5)) return no(BAD);
        Bend x = s.bends.get(b);
        return new int[] {x.yards, x.truth, x.note, x.words, x.mud ? 1 : 0, x.holds()}[what];
    }

    int now(int what) {
        if (!in(what, 0, 4)) return no(BAD);
        return new int[] {s.bend, s.seconds, s.crashes, s.kind, s.fog}[what];
    }

    int pace(int b, int note, int what) {
        if (!isBend(b) || !in(note, -1, 6) || !in(what, 0, 1)) return no(BAD);
        Bend x = s.bends.get(b);
        int n = note == -1 ? x.note : note;
        return what == 1 ? cost(b, n) : pace(s.kind, n, x.holds(), s.fog, x.mud);
    }

    int left() {
        int sum = 0;
        for (int b = s.bend; b < s.bends.size(); b++) sum += s.bends.get(b).yards + cost(b);
        return sum;
    }

    /** The set, of those that may be, by which the value is least; fewest first, if told; the least then. */
    private int best(IntBinaryOperator value, boolean fewest, int n) {
        int best = -1;
        long least = Long.MAX_VALUE;
        for (int set = 0; set < 1 << s.bends.size(); set++) {
            if ((set & (1 << s.bend) - 1) != 0 || Integer.bitCount(set) > n) continue;
            int v = value.applyAsInt(set, 0);
            if (v == Integer.MAX_VALUE) continue;
            long key = 100L * v + (fewest ? Integer.bitCount(set) : 0);
            if (key < least) {
                least = key;
                best = set;
            }
        }
        return best;
    }

    private int costMended(int set) {
        int sum = 0;
        for (int b = s.bend; b < s.bends.size(); b++) {
            int least = cost(b);
            if ((set >> b & 1) == 1) {
                least = 1000;
                for (int n = 0; n <= 6; n++) least = Math.min(least, cost(b, n));
            }
            sum += least;
        }
        return sum;
    }

    int mend(int n, int what) {
        if (!in(n, 0, 8) || !in(what, 0, 1)) return no(BAD);
        int set = best((x, y) -> costMended(x), true, n);
        return what == 1 ? set : costMended(0) - costMended(set);
    }

    private int costRead(int set, int w) {
        int sum = 0, words = 0, yards = 0;
        for (int b = s.bend; b < s.bends.size(); b++) {
            Bend x = s.bends.get(b);
            yards += x.yards;
            boolean read = (set >> b & 1) == 1;
            if (read) words += x.words;
            if (read && (x.note == 0 || words > w * yards)) return Integer.MAX_VALUE;
            sum += cost(b, read ? x.note : 0);
        }
        return sum;
    }

    int reads(int w, int what) {
        if (!in(w, 0, 9) || !in(what, 0, 1)) return no(BAD);
        int set = best((x, y) -> costRead(x, w), false, 8);
        return what == 0 ? set : costRead(set, w);
    }

    int wrong(int b) {
        if (!isBend(b)) return no(BAD) - 998;
        return cost(b) - cost(b, 0);
    }

    int turned() {
        int best = NONE, most = 0;
        for (int b = s.bends.size() - 2; b >= 0; b--) {
            int less = cost(b) + cost(b + 1) - cost(b, s.bends.get(b + 1).note) - cost(b + 1, s.bends.get(b).note);
            if (less > 0 && less >= most) {
                best = b;
                most = less;
            }
        }
        return best;
    }

    State sensed(List<Integer> felt, List<int[]> paces) {
        return new State(s.bends, s.kind, s.fog, s.bend, s.seconds, s.crashes, felt, paces, s.steps);
    }

    int felt(int holds) {
        if (!in(holds, 1, 6)) return no(BAD);
        if (s.felt.size() == 3) return no(FULL);
        s = sensed(plus(s.felt, holds), s.paces);
        return s.felt.size();
    }

    int where() {
        List<Integer> holds = s.bends.stream().map(Bend::holds).toList();
        int bits = 0;
        for (int end = Math.max(1, s.felt.size()); end <= holds.size(); end++) {
            if (holds.subList(end - s.felt.size(), end).equals(s.felt)) bits |= 1 << end - 1;
        }
        return bits;
    }

    int next() {
        Set<Integer> ways = new HashSet<>();
        int where = where();
        for (int b = 1; b < s.bends.size(); b++) {
            if ((where >> b - 1 & 1) == 1) ways.add(s.bends.get(b).holds());
        }
        return ways.size();
    }

    int seen(int n, int t, int f, int mud, int p) {
        if (!in(n, 0, 6) || !in(t, 1, 6) || !in(f, 0, 9) || !in(mud, 0, 1) || !in(p, 1, 7)) return no(BAD);
        if (s.paces.size() == 6) return no(FULL);
        s = sensed(s.felt, plus(s.paces, new int[] {n, t, f, mud, p}));
        return s.paces.size();
    }

    int forget(int what) {
        if (!in(what, 0, 1)) return no(BAD);
        int was = what == 0 ? s.felt.size() : s.paces.size();
        s = what == 0 ? sensed(List.of(), s.paces) : sensed(s.felt, List.of());
        return was;
    }

    int is() {
        int bits = 0;
        for (int kind = 0; kind < 6; kind++) {
            int k = kind;
            if (s.paces.stream().allMatch(a -> pace(k, a[0], a[1], a[2], a[3] == 1) == a[4])) bits |= 1 << kind;
        }
        return bits;
    }

    int look() {
        int kinds = is(), best = NONE, fewest = 99;
        for (int f = 0; f <= 9 && kinds != 0; f++) {
            for (int b = 0; b < s.bends.size(); b++) {
                Bend x = s.bends.get(b);
                Map<Integer, Integer> alike = new HashMap<>();
                for (int k = 0; k < 6; k++) {
                    if ((kinds >> k & 1) == 1) alike.merge(pace(k, x.note, x.holds(), f, x.mud), 1, Integer::sum);
                }
                int most = alike.values().stream().max(Integer::compare).orElse(0);
                if (most < fewest) {
                    best = 10 * f + b;
                    fewest = most;
                }
            }
        }
        return best;
    }

    int writes(int b) {
        if (!isBend(b)) return no(BAD);
        Bend x = s.bends.get(b);
        int[] her = new int[4], him = new int[4];
        for (int pair = 0; pair < 4; pair++) {
            boolean less = pair == 1 || pair == 3, more = pair >= 2;
            int p = pace(s.kind, less ? Math.max(0, x.note - 1) : x.note, x.holds(), s.fog, x.mud);
            int c = costOf(more ? Math.min(7, p + 1) : p, x.holds());
            her[pair] = -c - (less ? 1 : 0);
            him[pair] = -c + (more ? 2 : 0);
        }
        int bits = 0;
        for (int pair = 0; pair < 4; pair++) {
            if (her[pair ^ 1] <= her[pair] && him[pair ^ 2] <= him[pair]) bits |= 1 << pair;
        }
        return bits;
    }

    int heard(int c) {
        if (!in(c, 0, 10)) return no(BAD);
        long tenths = 0;
        for (int b = s.bend; b < s.bends.size(); b++) tenths += (10 - c) * cost(b) + c * cost(b, 0);
        long g = java.math.BigInteger.valueOf(tenths).gcd(java.math.BigInteger.TEN).longValue();
        above = tenths / g;
        below = 10 / g;
        return 1;
    }

    int rallies(int seed, int n) {
        if (!in(seed, 0, 999999) || !in(n, 0, 60)) return no(BAD);
        java.math.BigInteger x = java.math.BigInteger.valueOf(seed);
        int sum = 0;
        for (int k = 0; k < n; k++) {
            x = x.multiply(java.math.BigInteger.valueOf(1103515245)).add(java.math.BigInteger.valueOf(12345))
                    .mod(java.math.BigInteger.TWO.pow(31));
            State t = withBends(fresh((int) (x.longValue() / 65536 % 6), (int) (x.longValue() / 1048576 % 10)),
                    s.bends, List.of());
            for (int b = 0; b < t.bends.size(); b++) t = driven(t);
            sum += t.seconds;
        }
        return sum;
    }

    long part(int what) {
        return in(what, 0, 1) ? what == 0 ? above : below : no(BAD);
    }

    int image(int i) {
        if (!in(i, 0, 1)) return no(BAD);
        images[i] = s;
        return 1;
    }

    int from(int i) {
        if (!in(i, 0, 1)) return no(BAD);
        if (images[i] == null) return no(NO);
        s = images[i];
        return 1;
    }

    int status(int what) {
        return in(what, 0, 2) ? status[what] : no(BAD) + 1;
    }

    int count(int what) {
        if (!in(what, 0, 6)) return no(BAD);
        return new int[] {s.bends.size(), (int) s.bends.stream().filter(b -> b.note > 0).count(),
            (int) s.bends.stream().filter(Bend::mud).count(), s.felt.size(), s.paces.size(), s.steps.size(),
            text.length()}[what];
    }

    long digest() {
        List<Long> all = new ArrayList<>();
        for (int what = 0; what <= 6; what++) all.add((long) count(what));
        for (int what = 0; what <= 4; what++) all.add((long) now(what));
        for (int b = 0; b < s.bends.size(); b++) {
            for (int what = 0; what <= 4; what++) all.add((long) of(b, what));
        }
        for (int f : s.felt) all.add((long) f);
        for (int[] a : s.paces) {
            for (int v : a) all.add((long) v);
        }
        all.add(above);
        all.add(below);
        long h = 1361;
        for (long v : all) h = 31 * h + v;
        return h;
    }
}
