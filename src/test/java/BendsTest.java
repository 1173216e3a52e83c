/** Promises 9 to 13: drive, write, undo, of, now. */
public final class BendsTest {
    public static void main(String[] args) {
        drive();
        write();
        undoOne();
        undoEight();
        of();
        now();
        Check.end();
    }

    private static LeftCrest three() {
        return Check.road("road 0 0;bend 5 4 4 1;bend 2 3 5 2;bend 7 5 0 3;");
    }

    private static void drive() {
        LeftCrest x = three();
        Check.due("drive(0)", LeftCrest.BAD, x.drive(0));
        Check.due("drive(9)", LeftCrest.BAD, x.drive(9));
        Check.due("drive(-1)", LeftCrest.BAD, x.drive(-1));
        Check.due("drive(4)", LeftCrest.NO, x.drive(4));
        Check.due("drive refused: none driven", 0, x.now(0));
        Check.due("drive(1), as it holds", 5, x.drive(1));
        Check.due("drive(3) of 2", LeftCrest.NO, x.drive(3));
        Check.due("drive(2), crash and slow", 2 + 60 + 7 + 9, x.drive(2));
        Check.due("the bend", 3, x.now(0));
        Check.due("seconds", 5 + 78, x.now(1));
        Check.due("crashes", 1, x.now(2));
        Check.due("undo: two", 2, x.count(5));
        Check.due("drive, none left", LeftCrest.NO, x.drive(1));
        Check.due("NO counts", 3, x.status(1));
        Check.due("BAD counts", 3, x.status(0));
        LeftCrest y = Check.road("road 0 0;bend 1 3 4 1;");
        Check.due("1 more than it holds is no crash", 1 + 7, y.drive(1));
        Check.due("no crash", 0, y.now(2));
        Check.due("a bend that comes may be driven then", 1, y.bend(2, 6, 6, 1));
        Check.due("the next one", 2, y.drive(1));
    }

    private static void write() {
        LeftCrest x = three();
        Check.due("write(3, 0)", LeftCrest.BAD, x.write(3, 0));
        Check.due("write(-1, 0)", LeftCrest.BAD, x.write(-1, 0));
        Check.due("write(0, 7)", LeftCrest.BAD, x.write(0, 7));
        Check.due("write(0, -1)", LeftCrest.BAD, x.write(0, -1));
        Check.due("write refused: nothing to undo", 0, x.count(5));
        Check.due("write(1, 3)", 5, x.write(1, 3));
        Check.due("write(1, 3) again", 3, x.write(1, 3));
        Check.due("both may be undone", 2, x.count(5));
        Check.due("write(2, 6)", 0, x.write(2, 6));
        Check.due("notes", 3, x.count(1));
        Check.due("write(0, 0)", 4, x.write(0, 0));
        Check.due("notes", 2, x.count(1));
        x.drive(3);
        Check.due("a bend that was driven", 0, x.write(0, 2));
        Check.due("seconds stay", 5 + 6 + 2 + 7 + 7, x.now(1));
    }

    private static void undoOne() {
        LeftCrest x = three();
        long first = x.digest();
        x.drive(2);
        long second = x.digest();
        x.write(0, 1);
        x.felt(3);
        x.seen(1, 2, 3, 0, 5);
        Check.due("undo of write: the bend", 2, x.undo());
        Check.due("undo of write: the note", 4, x.of(0, 2));
        Check.due("felt stay", 1, x.forget(0));
        Check.due("paces stay", 1, x.forget(1));
        Check.due("all else, as ahead of it", second, x.digest());
        Check.due("undo of two bends together", 0, x.undo());
        Check.due("all, as ahead of it", first, x.digest());
        Check.due("undo, none", LeftCrest.NO, x.undo());
        Check.due("NO counts", 1, x.status(1));
        Check.due("crashes", 0, x.now(2));
    }

    private static void undoEight() {
        LeftCrest x = three();
        x.drive(1);
        for (int i = 0; i < 9; i++) x.write(1, i % 7);
        Check.due("8 at most", 8, x.count(5));
        for (int i = 0; i < 8; i++) {
            Check.due("undo " + i, 1, x.undo());
            Check.due("note behind undo " + i, (7 - i) % 7, x.of(1, 2));
        }
        Check.due("a 9th", LeftCrest.NO, x.undo());
        Check.due("the first one stays written", 0, x.of(1, 2));
        Check.due("the bend stays driven", 1, x.now(0));
    }

    private static void of() {
        LeftCrest x = three();
        x.mud(2, 1);
        int[][] due = {{5, 4, 4, 1, 0, 4}, {2, 3, 5, 2, 0, 3}, {7, 5, 0, 3, 1, 4}};
        for (int b = 0; b < 3; b++) {
            for (int what = 0; what < 6; what++) {
                Check.due("of(" + b + ", " + what + ")", due[b][what], x.of(b, what));
            }
        }
        Check.due("of(3, 0)", LeftCrest.BAD, x.of(3, 0));
        Check.due("of(-1, 0)", LeftCrest.BAD, x.of(-1, 0));
        Check.due("of(0, 6)", LeftCrest.BAD, x.of(0, 6));
        Check.due("of(0, -1)", LeftCrest.BAD, x.of(0, -1));
    }

    private static void now() {
        LeftCrest x = three();
        x.driver(2, 8);
        x.drive(2);
        int[] due = {2, 5 + 7 + 2 + 60, 1, 2, 8};
        for (int what = 0; what < 5; what++) Check.due("now(" + what + ")", due[what], x.now(what));
        Check.due("now(5)", LeftCrest.BAD, x.now(5));
        Check.due("now(-1)", LeftCrest.BAD, x.now(-1));
    }
}
