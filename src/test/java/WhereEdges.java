import java.math.BigInteger;

/** Promises 20 to 29: felt, where, next, seen, forget, is, look, writes, heard, rallies. */
final class WhereEdges {
    private WhereEdges() {
    }

    static void run() {
        felt();
        where();
        next();
        seenNumbers();
        seenFull();
        forget();
        is();
        look();
        lookNone();
        writes();
        writesAtTheEdge();
        heard();
        lowestTerms();
        rallies();
        ralliesWrap();
    }

    private static void felt() {
        Edge.says(0, "FELT 0 .. 3, as they come: how a BEND HOLDS (1 .. 6)");
        Edge.range(1, 6, LeftCrest::new, (x, holds) -> x.felt(holds));
        Edge.says(20, "FELT: how many there are. BAD; FULL: 3.");
        Edge.range(1, 6, () -> {
            LeftCrest x = States.full();
            x.forget(0);
            return x;
        }, (x, holds) -> x.felt(holds));
        LeftCrest x = new LeftCrest();
        for (int i = 1; i <= 3; i++) Edge.taken(i, x, y -> y.felt(6));
        Edge.refused(LeftCrest.FULL, States::full, y -> y.felt(1));
        Edge.refused(LeftCrest.FULL, States::full, y -> y.felt(6));
        Edge.due("a 4th", LeftCrest.FULL, x.felt(1));
        x.forget(0);
        Edge.taken(1, x, y -> y.felt(1));
    }

    private static LeftCrest feltOn(LeftCrest x, int... holds) {
        for (int h : holds) x.felt(h);
        return x;
    }

    private static void where() {
        Edge.says(0, "all of them being one behind the other (none FELT: all)");
        Edge.taken(0, new LeftCrest(), LeftCrest::where);
        Edge.taken(1, States.alike(1, 1, 1, 1, 1), LeftCrest::where);
        Edge.taken(255, States.alike(8, 1, 1, 1, 1), LeftCrest::where);
        Edge.taken(0, feltOn(new LeftCrest(), 1), LeftCrest::where);
        Edge.taken(0, feltOn(States.alike(8, 1, 1, 1, 1), 2), LeftCrest::where);
        Edge.taken(255, feltOn(States.alike(8, 1, 6, 1, 1), 6), LeftCrest::where);
        Edge.taken(254, feltOn(States.alike(8, 1, 1, 1, 1), 1, 1), LeftCrest::where);
        Edge.taken(252, feltOn(States.alike(8, 1, 1, 1, 1), 1, 1, 1), LeftCrest::where);
        Edge.taken(4, feltOn(States.alike(3, 1, 1, 1, 1), 1, 1, 1), LeftCrest::where);
        Edge.taken(0, feltOn(States.alike(2, 1, 1, 1, 1), 1, 1, 1), LeftCrest::where);
        Edge.taken(0, feltOn(States.alike(8, 1, 1, 1, 1), 1, 1, 2), LeftCrest::where);
        Edge.taken(0, feltOn(States.alike(8, 1, 1, 1, 1), 2, 1, 1), LeftCrest::where);
        Edge.says(21, "WHERE, as bits.");
        LeftCrest x = States.alike(8, 1, 2, 1, 1);
        x.mud(0, 1);
        x.mud(7, 1);
        Edge.taken(1 + 128, feltOn(x, 1), LeftCrest::where);
        Edge.taken(0, feltOn(x, 2, 1), LeftCrest::where);
        x.forget(0);
        Edge.taken(128, feltOn(x, 2, 2, 1), LeftCrest::where);
        x.drive(8);
        Edge.taken(128, x, LeftCrest::where);
        x.forget(0);
        Edge.taken(4, feltOn(x, 1, 2, 2), LeftCrest::where);
        x.mud(0, 0);
        Edge.taken(0, x, LeftCrest::where);
    }

    private static void next() {
        Edge.says(0, "how many unlike ways (HOLDS) those that come next behind these may be (a last one: none)");
        Edge.taken(0, new LeftCrest(), LeftCrest::next);
        Edge.taken(0, States.alike(1, 1, 1, 1, 1), LeftCrest::next);
        Edge.taken(1, States.alike(2, 1, 1, 1, 1), LeftCrest::next);
        Edge.taken(1, States.alike(8, 1, 1, 1, 1), LeftCrest::next);
        Edge.taken(0, feltOn(States.alike(2, 1, 1, 1, 1), 1, 1), LeftCrest::next);
        Edge.taken(0, feltOn(States.alike(8, 1, 1, 1, 1), 2), LeftCrest::next);
        LeftCrest x = new LeftCrest();
        for (int truth : new int[] {3, 1, 3, 2, 3, 6, 5, 4}) x.bend(1, truth, 1, 1);
        Edge.taken(6, x, LeftCrest::next);
        Edge.taken(3, feltOn(x, 3), LeftCrest::next);
        Edge.taken(1, feltOn(x, 1), LeftCrest::next);
        x.forget(0);
        Edge.taken(0, feltOn(x, 4), LeftCrest::next);
        x.forget(0);
        Edge.taken(1, feltOn(x, 5), LeftCrest::next);
        x.mud(5, 1);
        x.mud(1, 1);
        x.forget(0);
        Edge.taken(3, feltOn(x, 3), LeftCrest::next);
        x.mud(3, 1);
        Edge.taken(2, x, LeftCrest::next);
        Edge.says(22, "NEXT.");
        LeftCrest first = States.bends(new int[] {1, 6, 1, 1}, new int[] {1, 1, 1, 1});
        Edge.taken(1, first, LeftCrest::next);
    }

    private static void seenNumbers() {
        Edge.says(0, "a driver went at PACE p (1 .. 7) by NOTE n (0 .. 6), where it HOLDS t (1 .. 6), in FOG f (0 .. 9), "
                + "with MUD (1) or not (0)");
        Edge.range(0, 6, LeftCrest::new, (x, n) -> x.seen(n, 1, 0, 0, 1));
        Edge.range(1, 6, LeftCrest::new, (x, t) -> x.seen(0, t, 0, 0, 1));
        Edge.range(0, 9, LeftCrest::new, (x, f) -> x.seen(0, 1, f, 0, 1));
        Edge.range(0, 1, LeftCrest::new, (x, mud) -> x.seen(0, 1, 0, mud, 1));
        Edge.range(1, 7, LeftCrest::new, (x, p) -> x.seen(0, 1, 0, 0, p));
    }

    private static void seenFull() {
        Edge.says(23, "A PACE that was seen: how many there are. BAD; FULL: 6.");
        Edge.bad(x -> x.seen(-1, 0, -1, -1, 0));
        Edge.bad(x -> x.seen(7, 7, 10, 2, 8));
        LeftCrest x = new LeftCrest();
        Edge.says(0, "PACES 0 .. 5, as they come");
        for (int i = 1; i <= 6; i++) Edge.taken(i, x, y -> y.seen(6, 6, 9, 1, 7));
        Edge.says(23, "FULL: 6.");
        Edge.due("a 7th", LeftCrest.FULL, x.seen(6, 6, 9, 1, 7));
        Edge.refused(LeftCrest.FULL, States::full, y -> y.seen(0, 1, 0, 0, 1));
        Edge.refused(LeftCrest.FULL, States::full, y -> y.seen(6, 6, 9, 1, 7));
        x.forget(1);
        Edge.taken(1, x, y -> y.seen(0, 1, 0, 0, 1));
    }

    private static void forget() {
        Edge.says(24, "No FELT (0), PACES (1): how many there were. BAD.");
        Edge.range(0, 1, States::full, (x, what) -> x.forget(what));
        Edge.taken(0, new LeftCrest(), x -> x.forget(0));
        Edge.taken(0, new LeftCrest(), x -> x.forget(1));
        LeftCrest x = States.full();
        Edge.taken(3, x, y -> y.forget(0));
        Edge.row("PACES and what may be undone stay", new long[] {0, 6, 8}, x.count(3), x.count(4), x.count(5));
        Edge.taken(0, x, y -> y.forget(0));
        Edge.taken(6, x, y -> y.forget(1));
        Edge.row("none", new long[] {0, 0, 8}, x.count(3), x.count(4), x.count(5));
        Edge.taken(0, x, y -> y.forget(1));
        LeftCrest z = States.full();
        z.forget(1);
        Edge.row("FELT stay", new long[] {3, 0}, z.count(3), z.count(4));
    }

    private static LeftCrest seen(LeftCrest x, int[]... paces) {
        for (int[] a : paces) x.seen(a[0], a[1], a[2], a[3], a[4]);
        return x;
    }

    private static int kinds(int... pace) {
        return seen(new LeftCrest(), pace).is();
    }

    private static void is() {
        Edge.says(0, "IS: KINDS (bits) by which all PACES are so.");
        Edge.taken(63, new LeftCrest(), LeftCrest::is);
        Edge.taken(63, States.alike(8, 1, 1, 1, 1), LeftCrest::is);
        Edge.due("fog 3", 2, kinds(6, 1, 3, 0, 1));
        Edge.due("fog 4", 0, kinds(6, 1, 4, 0, 1));
        Edge.due("fog 6", 1 + 2 + 16, kinds(6, 1, 6, 0, 6));
        Edge.due("fog 7", 1 + 2, kinds(6, 1, 7, 0, 6));
        Edge.due("fog 7, 1 less", 8 + 16, kinds(6, 1, 7, 0, 5));
        Edge.due("7", 4 + 32, kinds(6, 6, 9, 0, 7));
        Edge.due("7, mud", 4, kinds(6, 6, 9, 1, 7));
        Edge.due("1 at least", 1 + 2 + 8 + 32, kinds(1, 1, 0, 1, 1));
        Edge.due("1 at least, no mud", 1 + 2 + 8, kinds(1, 1, 0, 0, 1));
        Edge.due("none is 2", 1 + 2 + 16, kinds(0, 2, 0, 1, 2));
        Edge.says(25, "IS, as bits.");
        LeftCrest x = new LeftCrest();
        for (int i = 0; i < 5; i++) x.seen(6, 6, 9, 0, 7);
        Edge.due("five alike", 4 + 32, x.is());
        x.seen(6, 6, 9, 1, 5);
        Edge.due("the sixth counts, too", 32, x.is());
        x.seen(1, 1, 1, 1, 7);
        Edge.due("a seventh, refused, does not", 32, x.is());
        x.forget(1);
        Edge.due("forgotten", 63, x.is());
        Edge.due("the first counts", 0, seen(new LeftCrest(), new int[] {6, 6, 9, 0, 1}, new int[] {6, 6, 9, 0, 7}).is());
    }

    private static void look() {
        Edge.says(0, "10 f and b (FOG f 0 .. 9, a BEND b as it is, with its NOTE) by which the most of these KINDS "
                + "that go at a PACE alike are fewest; of like ones the least");
        int[][] muddy = {{6, 6, 9, 0, 7}, {6, 6, 9, 1, 5}};
        Edge.taken(0, seen(States.alike(8, 1, 2, 6, 1), muddy), LeftCrest::look);
        // brave or muddy: mud on the last alone tells them apart
        LeftCrest last = States.alike(8, 1, 6, 6, 1);
        last.mud(7, 1);
        Edge.taken(7, seen(last, new int[] {6, 6, 9, 0, 7}), LeftCrest::look);
        last.mud(7, 0);
        Edge.taken(0, last, LeftCrest::look);
        // by sight or by ear, at a bend that holds 2, by note 1: alike up to fog 3
        int[][] sightOrEar = {{1, 2, 0, 0, 2}, {4, 4, 4, 0, 4}};
        Edge.taken(40, seen(States.alike(8, 1, 2, 1, 1), sightOrEar), LeftCrest::look);
        Edge.taken(0, seen(States.alike(8, 1, 3, 1, 1), sightOrEar), LeftCrest::look);
        Edge.taken(70, seen(States.alike(8, 1, 4, 4, 1), sightOrEar), LeftCrest::look);
        LeftCrest driven = seen(States.alike(8, 1, 2, 1, 1), sightOrEar);
        driven.driver(5, 9);
        driven.drive(8);
        Edge.taken(40, driven, LeftCrest::look);
        driven.write(5, 5);
        Edge.due("by a note that was written", 5, driven.look());
        // all six: 2 2 3 1 2 3 (0, holds 2), with mud 2 1 3 1 2 1; by note 4: 4 2 5 3 4 5
        Edge.taken(1, States.bends(new int[] {1, 2, 0, 1}, new int[] {1, 2, 4, 1}), LeftCrest::look);
    }

    private static void lookNone() {
        Edge.says(26, "LOOK. NONE.");
        Edge.none(new LeftCrest(), LeftCrest::look);
        Edge.says(0, "none: no KIND, no BENDS");
        Edge.none(seen(new LeftCrest(), new int[] {6, 6, 9, 0, 7}), LeftCrest::look);
        Edge.none(seen(States.alike(8, 1, 1, 1, 1), new int[] {6, 6, 9, 0, 1}), LeftCrest::look);
        Edge.none(seen(new LeftCrest(), new int[] {6, 6, 9, 0, 1}), LeftCrest::look);
        Edge.taken(0, States.alike(1, 1, 1, 1, 1), LeftCrest::look);
    }

    private static int pairs(int kind, int fog, int truth, int note) {
        LeftCrest x = States.alike(8, 1, truth, note, 1);
        x.driver(kind, fog);
        Edge.due("alike at the last", x.writes(0), x.writes(7));
        return x.writes(7);
    }

    private static void writes() {
        Edge.says(27, "WRITES, as bits. BAD.");
        Edge.aBend((x, b) -> x.writes(b));
        LeftCrest driven = States.alike(8, 1, 4, 4, 1);
        driven.drive(8);
        Edge.taken(1 + 8, driven, x -> x.writes(0));
    }

    private static void writesAtTheEdge() {
        Edge.says(0, "1 less (0 at least, as none then)");
        // none, less than that is none: her 0 -1 -7 -8, him 0 0 -5 -5
        Edge.due("none", 1, pairs(0, 0, 2, 0));
        // none at 2, so cost 12; more 9
        Edge.due("none, slow", 4, pairs(0, 0, 6, 0));
        // 1 less than 1 is none, at 2: her -12 -10 -9 -7, him -12 -9 -7 -4
        Edge.due("1, so none", 8, pairs(0, 0, 5, 1));
        Edge.due("1, held as it is", 1, pairs(0, 0, 1, 1));
        Edge.says(0, "or 1 PACE more (7 at most)");
        // brave by 6 goes at 7, by 5 at 6; more is 7 each: her -7 -1 -7 -8, him -7 0 -5 -5
        Edge.due("7", 2 + 4, pairs(2, 0, 6, 6));
        // crash anyhow
        Edge.due("7, crash", 4, pairs(2, 0, 1, 6));
        Edge.says(0, "neither would get more by doing otherwise");
        // as it is 0, less 3, more 7: her 0 -4 -7 -1, him 0 -3 -5 2
        Edge.due("two pairs rest", 1 + 8, pairs(0, 0, 4, 4));
        // holds 4, note 5: her -7 -1 -60 -8, him -7 0 -58 -5
        Edge.due("she writes less", 2, pairs(0, 0, 4, 5));
        Edge.says(0, "(bits: 0 as it is, as his KIND; 1 less, as his KIND; 2 as it is, more; 3 less, more;");
        Edge.row("each alone", new long[] {1, 2, 4, 8}, pairs(0, 0, 1, 1), pairs(0, 0, 4, 5), pairs(0, 0, 6, 0),
                pairs(0, 0, 5, 1));
        Edge.row("two together", new long[] {1 + 8, 2 + 4}, pairs(0, 0, 4, 4), pairs(2, 0, 6, 6));
        // by sight in fog 3 she can't help; in fog 4 as plain
        Edge.due("by sight, fog 3", 1, pairs(1, 3, 3, 6));
        Edge.due("by sight, fog 4", 4, pairs(1, 4, 3, 6));
    }

    private static void fraction(long above, long below, LeftCrest x, int c) {
        Edge.taken(1, x, y -> y.heard(c));
        Edge.row("THE FRACTION by " + c, new long[] {above, below}, x.part(0), x.part(1));
    }

    private static void heard() {
        Edge.says(28, "HEARD is THE FRACTION: 1. BAD.");
        Edge.range(0, 10, States::halfway, (x, c) -> x.heard(c));
        Edge.says(0, "by c of 10 (0 .. 10) each NOTE, apart, is not heard (as none): COST of all BENDS from THE BEND on, "
                + "in the mean");
        LeftCrest x = States.alike(8, 1, 1, 6, 1);
        fraction(480, 1, x, 0);
        fraction(56, 1, x, 10);
        fraction(2188, 5, x, 1);
        fraction(492, 5, x, 9);
        x.drive(7);
        fraction(60, 1, x, 0);
        fraction(7, 1, x, 10);
        x.drive(1);
        fraction(0, 1, x, 5);
        fraction(0, 1, new LeftCrest(), 10);
        LeftCrest crash = States.alike(8, 1, 1, 6, 1);
        crash.driver(2, 0);
        for (int c = 0; c <= 10; c++) fraction(480, 1, crash, c);
        fraction(15, 1, States.alike(1, 1, 6, 1, 1), 0);
        fraction(12, 1, States.alike(1, 1, 6, 1, 1), 10);
        fraction(12, 1, States.alike(1, 1, 6, 0, 1), 7);
    }

    private static void lowestTerms() {
        Edge.says(0, "lowest terms, below above 0");
        long[][] due = {{0, 1}, {3, 10}, {3, 5}, {9, 10}, {6, 5}, {3, 2}, {9, 5}, {21, 10}, {12, 5}, {27, 10}, {3, 1}};
        LeftCrest x = States.alike(1, 1, 3, 3, 1);
        for (int c = 0; c <= 10; c++) fraction(due[c][0], due[c][1], x, c);
        for (int c = 10; c >= 0; c--) fraction(due[c][0], due[c][1], x, c);
    }

    /** As told by the document, but by great numbers, and driven for each rally by the driver that is due. */
    private static long driven(long seed, int n) {
        LeftCrest y = ralliesRoad();
        BigInteger x = BigInteger.valueOf(seed);
        long sum = 0;
        for (int i = 0; i < n; i++) {
            x = x.multiply(BigInteger.valueOf(1103515245)).add(BigInteger.valueOf(12345)).mod(BigInteger.ONE.shiftLeft(31));
            int kind = x.divide(BigInteger.valueOf(65536)).mod(BigInteger.valueOf(6)).intValue();
            int fog = x.divide(BigInteger.valueOf(1048576)).mod(BigInteger.TEN).intValue();
            y.driver(kind, fog);
            sum += y.left();
        }
        return sum;
    }

    private static long byDriver(int kind, int fog) {
        LeftCrest x = ralliesRoad();
        x.driver(kind, fog);
        return x.left();
    }

    private static LeftCrest ralliesRoad() {
        LeftCrest x = new LeftCrest();
        for (int b = 0; b < 8; b++) x.bend(1 + b, 6 - b % 6, b % 7, 1);
        x.mud(0, 1);
        x.mud(7, 1);
        return x;
    }

    private static void rallies() {
        Edge.says(29, "RALLIES. BAD.");
        Edge.range(0, 999999, States::halfway, (x, seed) -> x.rallies(seed, 1));
        Edge.range(0, 60, States::halfway, (x, n) -> x.rallies(0, n));
        Edge.bad(x -> x.rallies(1000000, 61));
        Edge.says(0, "RALLIES by a SEED (0 .. 999999), n (0 .. 60)");
        for (int seed : new int[] {0, 999999}) {
            Edge.taken(0, new LeftCrest(), x -> x.rallies(seed, 60));
            Edge.taken(0, ralliesRoad(), x -> x.rallies(seed, 0));
            for (int n : new int[] {1, 2, 59, 60}) Edge.taken(driven(seed, n), ralliesRoad(), x -> x.rallies(seed, n));
        }
        Edge.says(0, "X by 65536 (cut), by 6 left over, is the KIND, X by 1048576 (cut), by 10 left over, the FOG");
        // X is 1021312070, just ahead of FOG 4, by sight; and 1422918149, just behind FOG 6, by ear
        Edge.taken(byDriver(1, 3), ralliesRoad(), x -> x.rallies(28705, 1));
        Edge.taken(byDriver(4, 7), ralliesRoad(), x -> x.rallies(2428, 1));
        Edge.says(0, "SECONDS of all BENDS (from 0), in all of them together");
        LeftCrest x = ralliesRoad();
        x.driver(5, 9);
        x.drive(8);
        Edge.taken(driven(7, 60), x, y -> y.rallies(7, 60));
    }

    private static void ralliesWrap() {
        Edge.says(0, "X is SEED at first; each time X becomes X times 1103515245 and 12345, by 2147483648 what is left over");
        // from 1: 1103527590, then, each over 2147483648 many times, 377401575, 662824084, 1147902781, 2035015474
        int[][] kindAndFog = {{2, 2}, {4, 9}, {3, 2}, {1, 4}, {1, 0}};
        long sum = 0;
        LeftCrest x = ralliesRoad();
        for (int i = 0; i < 5; i++) {
            sum += byDriver(kindAndFog[i][0], kindAndFog[i][1]);
            int n = i + 1;
            Edge.taken(sum, x, z -> z.rallies(1, n));
        }
        for (int seed = 2; seed < 500000; seed = seed * 3 + 1) {
            int at = seed;
            Edge.taken(driven(seed, 60), ralliesRoad(), z -> z.rallies(at, 60));
        }
    }
}
