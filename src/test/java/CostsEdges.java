import java.util.function.Supplier;

/** Promises 14 to 19: pace, left, mend, reads, wrong, turned; and that asking changes nothing. */
final class CostsEdges {
    private CostsEdges() {
    }

    static void run() {
        nothingIsChanged();
        pace();
        left();
        mend();
        mendFewest();
        reads();
        readsInTime();
        readsLeast();
        wrong();
        wrongBad();
        turned();
        turnedNone();
    }

    private static void nothingIsChanged() {
        Edge.says(0, "(Nothing is changed by these.)");
        Edge.changesNothing(LeftCrest::left);
        Edge.changesNothing(LeftCrest::turned);
        Edge.changesNothing(LeftCrest::where);
        Edge.changesNothing(LeftCrest::next);
        Edge.changesNothing(LeftCrest::is);
        Edge.changesNothing(LeftCrest::look);
        Edge.changesNothing(x -> x.mend(8, 0) + x.mend(8, 1));
        Edge.changesNothing(x -> x.reads(9, 0) + x.reads(9, 1));
        Edge.changesNothing(x -> x.rallies(999999, 60));
        Edge.changesNothing(x -> x.now(0) + x.count(0) + x.part(1) + x.status(0));
        Edge.changesNothing(LeftCrest::digest);
        Edge.changesNothing(x -> ofEach(x, 0) + ofEach(x, 1) + ofEach(x, 2) + ofEach(x, 3));
    }

    private static long ofEach(LeftCrest x, int call) {
        long sum = 0;
        for (int b = 0; b < x.count(0); b++) {
            sum += call == 0 ? x.of(b, 5) : call == 1 ? x.pace(b, 6, 1) : call == 2 ? x.wrong(b) : x.writes(b);
        }
        return sum;
    }

    private static void pace() {
        Edge.says(14, "PACE (what 0), COST (1) at a BEND, by a NOTE (NONE: as its NOTE is). BAD.");
        Edge.aBend((x, b) -> x.pace(b, 0, 0));
        Edge.aBend((x, b) -> x.pace(b, LeftCrest.NONE, 1));
        Edge.range(-1, 6, States::halfway, (x, note) -> x.pace(0, note, 0));
        Edge.range(0, 1, States::halfway, (x, what) -> x.pace(0, 0, what));
        LeftCrest x = States.alike(8, 1, 4, 6, 1);
        Edge.row("as its note is", new long[] {6, 60}, x.pace(7, LeftCrest.NONE, 0), x.pace(7, LeftCrest.NONE, 1));
        x.write(7, 0);
        Edge.row("as its note is, none", new long[] {2, 6}, x.pace(7, LeftCrest.NONE, 0), x.pace(7, LeftCrest.NONE, 1));
        Edge.says(0, "at a NOTE told (0 .. 6)");
        Edge.row("0", new long[] {2, 6}, x.pace(0, 0, 0), x.pace(0, 0, 1));
        Edge.row("6", new long[] {6, 60}, x.pace(7, 6, 0), x.pace(7, 6, 1));
    }

    private static void left() {
        Edge.says(15, "LEFT.");
        Edge.taken(0, new LeftCrest(), LeftCrest::left);
        Edge.says(0, "LEFT: SECONDS of all BENDS from THE BEND on.");
        Edge.taken(0, States.drivenOut(), LeftCrest::left);
        LeftCrest x = States.alike(8, 9, 1, 6, 1);
        for (int left = 8; left > 0; left--) {
            Edge.taken(69 * left, x, LeftCrest::left);
            x.drive(1);
        }
        Edge.due("none left", 0, x.left());
    }

    private static void both(long[] due, Supplier<LeftCrest> made, int n) {
        LeftCrest x = made.get();
        Edge.row("mend(" + n + ", ..)", due, x.mend(n, 0), x.mend(n, 1));
        Edge.row("STATUS", new long[3], Edge.status(x));
    }

    private static void mend() {
        Edge.says(16, "MEND: how much (0), which (1; bits). BAD.");
        Edge.range(0, 8, States::halfway, (x, n) -> x.mend(n, 0));
        Edge.range(0, 8, States::halfway, (x, n) -> x.mend(n, 1));
        Edge.range(0, 1, States::halfway, (x, what) -> x.mend(1, what));
        Edge.says(0, "MEND up to n (0 .. 8) NOTES of BENDS from THE BEND on, each to 0 .. 6 as is best for it");
        both(new long[] {0, 0}, LeftCrest::new, 8);
        both(new long[] {0, 0}, () -> States.alike(8, 1, 1, 6, 1), 0);
        for (int n = 1; n <= 8; n++) both(new long[] {60 * n, (1 << n) - 1}, () -> States.alike(8, 1, 1, 6, 1), n);
        both(new long[] {60, 1}, () -> States.alike(1, 1, 1, 6, 1), 8);
        both(new long[] {15, 1}, () -> States.alike(1, 1, 6, 1, 1), 1);
        both(new long[] {12, 1}, () -> States.alike(1, 1, 6, 0, 1), 1);
        both(new long[] {60 * 2, 192}, () -> drivenOf8(6), 8);
        both(new long[] {60, 128}, () -> drivenOf8(7), 8);
        both(new long[] {0, 0}, () -> drivenOf8(8), 8);
        both(new long[] {53, 1}, () -> byKind(2, 0, 1, 6), 1);
        both(new long[] {0, 0}, () -> byKind(2, 0, 1, 1), 1);
        both(new long[] {0, 0}, () -> byKind(3, 0, 6, 6), 1);
        both(new long[] {0, 0}, () -> byKind(1, 3, 1, 6), 1);
        both(new long[] {60, 1}, () -> byKind(1, 4, 1, 6), 1);
    }

    private static LeftCrest drivenOf8(int n) {
        LeftCrest x = States.alike(8, 1, 1, 6, 1);
        x.drive(n);
        return x;
    }

    private static LeftCrest byKind(int kind, int fog, int truth, int note) {
        LeftCrest x = States.alike(1, 1, truth, note, 1);
        x.driver(kind, fog);
        return x;
    }

    private static LeftCrest savings() {
        return States.bends(new int[] {1, 4, 4, 1}, new int[] {1, 4, 3, 1}, new int[] {1, 4, 5, 1}, new int[] {1, 4, 3, 1},
                new int[] {1, 4, 6, 1}, new int[] {1, 4, 5, 1});
    }

    private static void mendFewest() {
        Edge.says(0, "the most SECONDS saved; which (bits; fewest; of like ones the least)");
        both(new long[] {0, 0}, () -> States.alike(8, 1, 6, 6, 1), 8);
        both(new long[] {60, 16}, CostsEdges::savings, 1);
        both(new long[] {67, 16 + 4}, CostsEdges::savings, 2);
        both(new long[] {74, 16 + 4 + 32}, CostsEdges::savings, 3);
        both(new long[] {77, 16 + 4 + 32 + 2}, CostsEdges::savings, 4);
        both(new long[] {80, 62}, CostsEdges::savings, 5);
        both(new long[] {80, 62}, CostsEdges::savings, 6);
        both(new long[] {80, 62}, CostsEdges::savings, 8);
    }

    private static void said(long[] due, LeftCrest x, int w) {
        Edge.row("reads(" + w + ", ..)", due, x.reads(w, 0), x.reads(w, 1));
        Edge.row("STATUS", new long[3], Edge.status(x));
    }

    private static void reads() {
        Edge.says(17, "READ: which (0; bits), how much (1). BAD.");
        Edge.range(0, 9, States::halfway, (x, w) -> x.reads(w, 0));
        Edge.range(0, 9, States::halfway, (x, w) -> x.reads(w, 1));
        Edge.range(0, 1, States::halfway, (x, what) -> x.reads(1, what));
        said(new long[] {0, 0}, new LeftCrest(), 9);
        said(new long[] {0, 0}, new LeftCrest(), 0);
        said(new long[] {255, 0}, States.alike(8, 9, 6, 6, 1), 9);
        said(new long[] {255, 0}, States.alike(8, 1, 6, 6, 9), 9);
        said(new long[] {0, 96}, States.alike(8, 9, 6, 6, 1), 0);
        said(new long[] {0, 96}, States.alike(8, 9, 6, 0, 1), 9);
        LeftCrest driven = States.alike(8, 9, 6, 6, 1);
        driven.drive(7);
        said(new long[] {128, 0}, driven, 9);
        driven.drive(1);
        said(new long[] {0, 0}, driven, 9);
    }

    private static void readsInTime() {
        Edge.says(0, "WORDS of those read up to it no more than w (0 .. 9) times YARDS from THE BEND as it is to it "
                + "(itself, too)");
        said(new long[] {1, 0}, States.alike(1, 1, 6, 6, 9), 9);
        said(new long[] {0, 12}, States.alike(1, 1, 6, 6, 9), 8);
        said(new long[] {1, 0}, States.alike(1, 9, 6, 6, 9), 1);
        said(new long[] {0, 12}, States.alike(1, 8, 6, 6, 9), 1);
        said(new long[] {1, 0}, States.alike(1, 2, 6, 6, 6), 3);
        said(new long[] {0, 12}, States.alike(1, 2, 6, 6, 7), 3);
        // both fit at 3 words for ten yards; at 2 the second alone, as the first's yards are to it, too
        LeftCrest two = States.bends(new int[] {1, 6, 6, 3}, new int[] {1, 6, 6, 3});
        said(new long[] {3, 0}, two, 3);
        said(new long[] {2, 12}, two, 2);
        said(new long[] {0, 24}, two, 1);
        // one that is not read costs no words, though its yards count
        LeftCrest over = States.bends(new int[] {3, 2, 2, 9}, new int[] {1, 6, 6, 4});
        said(new long[] {2, 0}, over, 1);
        Edge.says(0, "one read must be said on the way to its BEND, all ahead of it said by then, too");
        LeftCrest ahead = States.bends(new int[] {4, 6, 6, 4}, new int[] {1, 6, 6, 2}, new int[] {1, 6, 6, 1});
        said(new long[] {5, 12}, ahead, 1);
        said(new long[] {7, 0}, ahead, 2);
        // yards that were driven no longer count
        ahead.drive(1);
        said(new long[] {4, 12}, ahead, 1);
        said(new long[] {6, 0}, ahead, 2);
    }

    private static void readsLeast() {
        Edge.says(0, "the set (bits) by which COSTS together are least; of like ones the least; how much");
        said(new long[] {1, 12}, States.bends(new int[] {2, 6, 6, 2}, new int[] {1, 6, 6, 2}), 1);
        said(new long[] {2, 9}, States.bends(new int[] {2, 5, 5, 2}, new int[] {1, 6, 6, 2}), 1);
        said(new long[] {0, 0}, States.alike(8, 9, 2, 2, 1), 9);
        said(new long[] {0, 0}, States.alike(8, 9, 2, 6, 1), 9);
        said(new long[] {0, 8 * 7}, States.alike(8, 9, 1, 2, 1), 9);
        said(new long[] {128, 7 * 7}, lastOneRight(), 9);
        Edge.says(0, "some NOTES (none of 0)");
        said(new long[] {2, 12}, States.bends(new int[] {9, 6, 0, 1}, new int[] {9, 6, 6, 1}), 9);
    }

    private static LeftCrest lastOneRight() {
        LeftCrest x = States.alike(8, 9, 1, 2, 1);
        x.write(7, 1);
        return x;
    }

    private static void wrong() {
        Edge.says(0, "how much more a NOTE of a BEND costs than none (it may be below 0)");
        int[][] due = {{6, 6, -12}, {3, 3, -3}, {5, 6, -2}, {1, 1, -7}, {2, 2, 0}, {6, 0, 0}, {1, 0, 0}, {2, 3, 7},
            {2, 4, 60}, {1, 3, 53}, {6, 1, 3}};
        for (int[] row : due) {
            LeftCrest x = States.alike(8, 1, row[0], row[1], 1);
            Edge.taken(row[2], x, y -> y.wrong(0));
            Edge.taken(row[2], x, y -> y.wrong(7));
        }
        Edge.taken(-53, byKind(2, 0, 1, 1), x -> x.wrong(0));
        LeftCrest driven = drivenOf8(8);
        Edge.taken(53, driven, x -> x.wrong(0));
    }

    private static void wrongBad() {
        Edge.says(18, "BAD: -1000.");
        for (Supplier<LeftCrest> made : States.ALL) {
            int size = made.get().count(0);
            int[] bad = {-1, size, 8, 9, Integer.MIN_VALUE, Integer.MAX_VALUE, 256, 65536, -256};
            for (int b : bad) Edge.refused(LeftCrest.BAD, -1000, made, x -> x.wrong(b));
            for (int b = 0; b < size; b++) {
                LeftCrest x = made.get();
                x.wrong(b);
                Edge.row("STATUS stays", Edge.status(made.get()), Edge.status(x));
            }
        }
    }

    private static LeftCrest pairAt(int b, int noteHere, int noteBehind) {
        LeftCrest x = new LeftCrest();
        for (int i = 0; i < 8; i++) {
            if (i == b) x.bend(1, 2, noteHere, 1);
            else if (i == b + 1) x.bend(1, 6, noteBehind, 1);
            else x.bend(1, 4, 4, 1);
        }
        return x;
    }

    private static void turned() {
        Edge.says(0, "two BENDS side by side (b and b + 1; driven or not), by whose NOTES, changed one for the other, "
                + "COST of both together would be most less: b; of like ones the first");
        for (int b = 0; b <= 6; b++) Edge.taken(b, pairAt(b, 6, 2), LeftCrest::turned);
        LeftCrest driven = pairAt(0, 6, 2);
        driven.drive(8);
        Edge.taken(0, driven, LeftCrest::turned);
        LeftCrest halfDriven = pairAt(0, 6, 2);
        halfDriven.drive(1);
        Edge.taken(0, halfDriven, LeftCrest::turned);
        Edge.taken(0, States.bends(new int[] {1, 5, 4, 1}, new int[] {1, 4, 5, 1}), LeftCrest::turned);
        // each pair saves 10: the first; then the last saves more
        LeftCrest like = States.bends(new int[] {1, 5, 4, 1}, new int[] {1, 4, 5, 1}, new int[] {1, 5, 4, 1},
                new int[] {1, 4, 5, 1});
        Edge.taken(0, like, LeftCrest::turned);
        like.write(3, 6);
        Edge.due("the most less", 2, like.turned());
        // the first pair costs 67, changed 66; the one behind it 10, changed 0
        LeftCrest dearer = States.bends(new int[] {1, 1, 3, 1}, new int[] {1, 5, 6, 1}, new int[] {1, 6, 5, 1});
        Edge.taken(1, dearer, LeftCrest::turned);
        LeftCrest second = States.bends(new int[] {1, 6, 6, 1}, new int[] {1, 3, 4, 1}, new int[] {1, 4, 3, 1});
        Edge.taken(1, second, LeftCrest::turned);
    }

    private static void turnedNone() {
        Edge.says(19, "TURNED. NONE.");
        Edge.none(new LeftCrest(), LeftCrest::turned);
        Edge.none(States.alike(1, 1, 1, 6, 1), LeftCrest::turned);
        Edge.none(States.alike(8, 1, 1, 6, 1), LeftCrest::turned);
        Edge.none(pairAt(3, 2, 6), LeftCrest::turned);
        Edge.says(0, "none: by none less");
        // as noted 0 and 3, changed 0 and 3: no less
        Edge.none(States.bends(new int[] {1, 3, 3, 1}, new int[] {1, 3, 2, 1}), LeftCrest::turned);
        // as noted 60 and 7, changed 60 and 6: 1 less; the other way it would be 1 more
        Edge.taken(0, States.bends(new int[] {1, 1, 3, 1}, new int[] {1, 5, 6, 1}), LeftCrest::turned);
        Edge.none(States.bends(new int[] {1, 1, 6, 1}, new int[] {1, 5, 3, 1}), LeftCrest::turned);
    }
}
