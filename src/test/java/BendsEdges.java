import java.util.function.ToLongFunction;

/** Promises 9 to 13: drive, write, undo, of, now. */
final class BendsEdges {
    private BendsEdges() {
    }

    static void run() {
        drive();
        driveNo();
        driveTogether();
        write();
        undo();
        undoNo();
        undoEight();
        undoNoneBehind();
        of();
        now();
    }

    private static void drive() {
        Edge.says(9, "n BENDS are driven (1 .. 8;");
        Edge.range(1, 8, () -> States.alike(8, 1, 1, 1, 1), (x, n) -> x.drive(n));
        for (int n = 1; n <= 8; n++) {
            LeftCrest x = States.alike(8, 2, 3, 4, 1);
            Edge.due("SECONDS for " + n, n * 9, x.drive(n));
            Edge.row("THE BEND, SECONDS", new long[] {n, n * 9}, x.now(0), x.now(1));
        }
        LeftCrest x = States.alike(8, 2, 3, 4, 1);
        x.drive(5);
        Edge.says(9, "SECONDS for them. BAD;");
        Edge.due("for these, not for all", 27, x.drive(3));
        Edge.due("SECONDS", 72, x.now(1));
    }

    private static void driveNo() {
        Edge.says(9, "NO: there are not so many left.");
        Edge.refused(LeftCrest.NO, LeftCrest::new, x -> x.drive(1));
        Edge.refused(LeftCrest.NO, LeftCrest::new, x -> x.drive(8));
        Edge.refused(LeftCrest.NO, States::drivenOut, x -> x.drive(1));
        Edge.refused(LeftCrest.NO, States::halfway, x -> x.drive(3));
        Edge.refused(LeftCrest.NO, States::full, x -> x.drive(6));
        Edge.refused(LeftCrest.NO, States::full, x -> x.drive(8));
        Edge.refused(LeftCrest.NO, () -> States.alike(7, 1, 1, 1, 1), x -> x.drive(8));
        Edge.taken(7, States.alike(7, 1, 1, 1, 1), x -> x.drive(7));
        LeftCrest x = States.full();
        x.drive(5);
        Edge.due("as many as are left", 8, x.now(0));
    }

    private static void driveTogether() {
        Edge.says(9, "together one that may be undone");
        LeftCrest x = States.alike(8, 1, 1, 6, 1);
        x.drive(7);
        Edge.due("one", 1, x.count(5));
        x.drive(1);
        Edge.due("another", 2, x.count(5));
        Edge.due("the one behind", 7, x.undo());
        Edge.due("all seven", 0, x.undo());
        Edge.row("SECONDS, CRASHES", new long[] {0, 0}, x.now(1), x.now(2));
    }

    private static void write() {
        Edge.says(10, "A NOTE of a BEND is written (0 .. 6): what it was. BAD.");
        Edge.aBend((x, b) -> x.write(b, 0));
        Edge.range(0, 6, States::halfway, (x, note) -> x.write(0, note));
        LeftCrest x = States.alike(8, 1, 1, 6, 1);
        Edge.taken(6, x, y -> y.write(7, 0));
        Edge.due("none is there", 7, x.count(1));
        Edge.taken(0, x, y -> y.write(7, 6));
        Edge.taken(6, x, y -> y.write(7, 6));
        Edge.due("what was there already is one to undo, too", 3, x.count(5));
        Edge.taken(6, x, y -> y.write(0, 1));
        Edge.row("no other one", new long[] {1, 6, 6}, x.of(0, 2), x.of(1, 2), x.of(7, 2));
        x.drive(8);
        Edge.taken(1, x, y -> y.write(0, 6));
        Edge.due("one driven: THE BEND stays", 8, x.now(0));
    }

    private static void undo() {
        Edge.says(0, "THE BEND, SECONDS, CRASHES, NOTES as ahead of the last BENDS driven, NOTE written");
        LeftCrest x = States.alike(2, 3, 1, 6, 1);
        x.drive(1);
        x.write(0, 0);
        x.write(1, 1);
        x.drive(1);
        x.felt(1);
        x.seen(1, 1, 1, 1, 1);
        x.heard(0);
        x.type('a');
        long[][] due = {{1, 63, 1, 0, 1}, {1, 63, 1, 0, 6}, {1, 63, 1, 6, 6}, {0, 0, 0, 6, 6}};
        for (long[] row : due) {
            Edge.taken(row[0], x, LeftCrest::undo);
            Edge.row("THE BEND, SECONDS, CRASHES, NOTES", row, x.now(0), x.now(1), x.now(2), x.of(0, 2), x.of(1, 2));
        }
        Edge.row("FELT, PACES, THE TEXT stay", new long[] {1, 1, 1}, x.count(3), x.count(4), x.count(6));
    }

    private static void undoNo() {
        Edge.says(11, "UNDO: THE BEND then. NO: none may be.");
        Edge.refused(LeftCrest.NO, LeftCrest::new, LeftCrest::undo);
        Edge.refused(LeftCrest.NO, () -> States.alike(8, 1, 1, 1, 1), LeftCrest::undo);
        Edge.refused(LeftCrest.NO, () -> {
            LeftCrest x = States.full();
            for (int i = 0; i < 8; i++) x.undo();
            return x;
        }, LeftCrest::undo);
        LeftCrest x = States.full();
        for (int left = 8; left > 0; left--) {
            Edge.due("that may be", left, x.count(5));
            x.undo();
        }
        Edge.due("none", 0, x.count(5));
        x.write(0, 1);
        Edge.due("one again", 1, x.count(5));
    }

    private static void undoEight() {
        Edge.says(0, "(8 at most;");
        LeftCrest x = States.alike(8, 1, 6, 0, 1);
        for (int i = 1; i <= 20; i++) {
            x.write(i % 8, 1 + i % 6);
            Edge.due("behind " + i, Math.min(i, 8), x.count(5));
        }
        for (int i = 20; i > 12; i--) {
            Edge.due("note of " + i, 1 + i % 6, x.of(i % 8, 2));
            Edge.taken(0, x, LeftCrest::undo);
            Edge.due("note ahead of " + i, 1 + (i - 8) % 6, x.of(i % 8, 2));
        }
        Edge.due("a 9th", LeftCrest.NO, x.undo());
        LeftCrest y = States.alike(8, 1, 6, 6, 1);
        y.write(0, 5);
        for (int i = 0; i < 8; i++) y.drive(1);
        for (int i = 7; i >= 0; i--) Edge.taken(i, y, LeftCrest::undo);
        Edge.due("what went ahead of eight", LeftCrest.NO, y.undo());
        Edge.due("stays written", 5, y.of(0, 2));
    }

    private static void undoNoneBehind() {
        Edge.says(0, "behind a BEND that comes, MUD, FOG, a DRIVER told none may be");
        gone(x -> x.bend(1, 1, 1, 1));
        gone(x -> x.mud(0, 1));
        gone(x -> x.mud(0, 0));
        gone(x -> x.driver(4, 9));
        gone(x -> x.driver(0, 5));
        gone(x -> x.driver(4, 5));
        gone(x -> x.road(4, 5));
        stays(x -> x.bend(0, 1, 1, 1));
        stays(x -> x.mud(3, 1));
        stays(x -> x.mud(0, 2));
        stays(x -> x.driver(6, 0));
        stays(x -> x.driver(0, 10));
        stays(x -> x.drive(3));
        stays(x -> x.write(0, 7));
        stays(x -> x.felt(1));
        stays(x -> x.seen(1, 1, 1, 1, 1));
        stays(x -> x.forget(0));
        stays(x -> x.image(0));
        stays(x -> x.heard(1));
        stays(x -> x.type(1));
        stays(LeftCrest::clear);
        stays(x -> x.clear() + x.read());
    }

    private static void gone(ToLongFunction<LeftCrest> call) {
        LeftCrest x = States.halfway();
        call.applyAsLong(x);
        Edge.due("none may be undone", 0, x.count(5));
        Edge.due("undo", LeftCrest.NO, x.undo());
    }

    private static void stays(ToLongFunction<LeftCrest> call) {
        LeftCrest x = States.halfway();
        call.applyAsLong(x);
        Edge.due("three may be undone yet", 3, x.count(5));
        Edge.row("undo", new long[] {1, 0, 0, LeftCrest.NO}, x.undo(), x.undo(), x.undo(), x.undo());
    }

    private static void of() {
        Edge.says(12, "Of a BEND: YARDS (0), TRUE (1), NOTE (2), WORDS (3), MUD (4; 1, 0), what it HOLDS (5). BAD.");
        Edge.aBend((x, b) -> x.of(b, 0));
        Edge.aBend((x, b) -> x.of(b, 5));
        Edge.range(0, 5, States::halfway, (x, what) -> x.of(0, what));
        LeftCrest x = States.full();
        Edge.row("the first", new long[] {9, 1, 2, 1, 1, 1}, x.of(0, 0), x.of(0, 1), x.of(0, 2), x.of(0, 3), x.of(0, 4),
                x.of(0, 5));
        Edge.row("the last", new long[] {2, 2, 0, 8, 0, 2}, x.of(7, 0), x.of(7, 1), x.of(7, 2), x.of(7, 3), x.of(7, 4),
                x.of(7, 5));
    }

    private static void now() {
        Edge.says(13, "THE BEND (0), SECONDS (1), CRASHES (2), KIND (3), FOG (4). BAD.");
        Edge.range(0, 4, States::halfway, (x, what) -> x.now(what));
        LeftCrest x = States.alike(8, 9, 1, 6, 1);
        x.driver(5, 9);
        x.drive(8);
        Edge.row("the most of each", new long[] {8, 552, 8, 5, 9}, x.now(0), x.now(1), x.now(2), x.now(3), x.now(4));
    }
}
