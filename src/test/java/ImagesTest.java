/** Promises 30 to 35: part, image, from, status, count, digest. */
public final class ImagesTest {
    public static void main(String[] args) {
        part();
        images();
        imagesKeepUndo();
        imagesKeepAll();
        status();
        count();
        digest();
        Check.end();
    }

    private static void part() {
        LeftCrest x = new LeftCrest();
        Check.due("part(0)", 0, x.part(0));
        Check.due("part(1)", 1, x.part(1));
        Check.due("part(2)", LeftCrest.BAD, x.part(2));
        Check.due("part(-1)", LeftCrest.BAD, x.part(-1));
        Check.due("part counts as BAD", 2, x.status(0));
    }

    private static void images() {
        LeftCrest x = Check.road("road 1 2;bend 3 4 5 6;bend 6 5 4 3;");
        Check.due("image(2)", LeftCrest.BAD, x.image(2));
        Check.due("image(-1)", LeftCrest.BAD, x.image(-1));
        Check.due("from(2)", LeftCrest.BAD, x.from(2));
        Check.due("from(-1)", LeftCrest.BAD, x.from(-1));
        Check.due("from(0), none kept", LeftCrest.NO, x.from(0));
        x.felt(3);
        x.seen(1, 2, 3, 0, 5);
        x.drive(1);
        x.mud(1, 1);
        x.write(0, 2);
        long first = x.digest();
        Check.due("image(0)", 1, x.image(0));
        x.felt(4);
        x.seen(5, 4, 3, 1, 2);
        x.drive(1);
        x.mud(0, 1);
        x.driver(4, 5);
        x.bend(1, 1, 1, 1);
        long second = x.digest();
        Check.due("image(1)", 1, x.image(1));
        x.road(0, 0);
        Check.due("from(0)", 1, x.from(0));
        Check.due("as it was then", first, x.digest());
        Check.due("from(1)", 1, x.from(1));
        Check.due("as it was later", second, x.digest());
        x.write(1, 0);
        Check.due("the image is no longer the object's", 1, x.from(1));
        Check.due("as it was later, again", second, x.digest());
        x.from(0);
        Check.due("an image over another", 1, x.image(1));
        x.road(5, 5);
        x.from(1);
        Check.due("as it was then, from the other", first, x.digest());
        int text = x.count(6);
        x.type('a');
        x.heard(10);
        long above = x.part(0);
        x.from(0);
        Check.due("the text goes on", text + 1, x.count(6));
        Check.due("the fraction goes on", above, x.part(0));
        Check.due("status goes on: BAD", 4, x.status(0));
        Check.due("status goes on: NO", 1, x.status(1));
    }

    private static void imagesKeepUndo() {
        LeftCrest x = Check.road("road 0 0;bend 3 4 5 6;bend 6 5 4 3;");
        x.write(0, 1);
        x.drive(2);
        x.image(0);
        x.undo();
        x.undo();
        x.write(1, 6);
        x.from(0);
        Check.due("what may be undone is kept", 2, x.count(5));
        Check.due("undo: the bend", 0, x.undo());
        Check.due("undo: the note is written yet", 1, x.of(0, 2));
        x.undo();
        Check.due("undo: the note", 5, x.of(0, 2));
        Check.due("undo: the other note", 4, x.of(1, 2));
        Check.due("undo, none", LeftCrest.NO, x.undo());
    }

    private static void imagesKeepAll() {
        LeftCrest x = new LeftCrest();
        for (int b = 0; b < 8; b++) x.bend(1 + b, 1 + b % 6, b % 7, 9 - b);
        x.mud(7, 1);
        for (int i = 0; i < 3; i++) x.felt(6 - i);
        for (int i = 0; i < 6; i++) x.seen(i, 6 - i, 9 - i, i % 2, 7 - i);
        for (int b = 0; b < 8; b++) x.write(b, 6);
        long before = x.digest();
        x.image(1);
        x.road(0, 0);
        for (int b = 0; b < 8; b++) x.bend(9, 6, 0, 1);
        for (int b = 0; b < 8; b++) x.write(b, 3);
        for (int i = 0; i < 3; i++) x.felt(1);
        for (int i = 0; i < 6; i++) x.seen(0, 1, 0, 0, 1);
        x.from(1);
        Check.due("all are kept", before, x.digest());
        for (int b = 7; b >= 0; b--) {
            x.undo();
            Check.due("all may be undone: note " + b, b % 7, x.of(b, 2));
        }
    }

    private static void status() {
        LeftCrest x = new LeftCrest();
        x.road(9, 9);
        x.drive(1);
        x.undo();
        for (int i = 0; i < 9; i++) x.bend(1, 1, 1, 1);
        x.wrong(8);
        Check.due("status(0)", 2, x.status(0));
        Check.due("status(1)", 2, x.status(1));
        Check.due("status(2)", 1, x.status(2));
        Check.due("status(3)", -1, x.status(3));
        Check.due("status(-1)", -1, x.status(-1));
        Check.due("another what counts as BAD", 4, x.status(0));
        x.read();
        x.look();
        x.turned();
        x.road(0, 0);
        x.look();
        Check.due("a fault, a NONE count as none", 4 + 2 + 1, x.status(0) + x.status(1) + x.status(2));
    }

    private static void count() {
        LeftCrest x = Check.road("road 0 0;bend 3 4 5 6;bend 6 5 0 3;bend 1 1 1 1;mud 1;");
        x.felt(1);
        x.felt(2);
        x.seen(1, 1, 1, 1, 1);
        x.drive(1);
        x.write(0, 0);
        x.write(0, 2);
        x.drive(2);
        int[] due = {3, 2, 1, 2, 1, 4, 54};
        for (int what = 0; what <= 6; what++) Check.due("count(" + what + ")", due[what], x.count(what));
        Check.due("count(7)", LeftCrest.BAD, x.count(7));
        Check.due("count(-1)", LeftCrest.BAD, x.count(-1));
    }

    private static long sum(long... values) {
        long h = 1361;
        for (long v : values) h = 31 * h + v;
        return h;
    }

    private static void digest() {
        LeftCrest x = new LeftCrest();
        Check.due("digest, new", sum(0, 0, 0, 0, 0, 0, 0, 0, 0, 0, 0, 0, 0, 1), x.digest());
        x.road(2, 6);
        x.bend(3, 4, 5, 6);
        x.bend(7, 6, 0, 1);
        x.mud(1, 1);
        x.felt(5);
        x.felt(2);
        x.seen(6, 5, 4, 1, 2);
        x.drive(1);
        x.heard(5);
        x.type('x');
        Check.due("digest", sum(2, 1, 1, 2, 1, 1, 1, 1, 63, 1, 2, 6, 3, 4, 5, 6, 0, 7, 6, 0, 1, 1, 5, 2,
                6, 5, 4, 1, 2, 6, 1), x.digest());
        x.undo();
        x.of(9, 9);
        Check.due("digest, undone", sum(2, 1, 1, 2, 1, 0, 1, 0, 0, 0, 2, 6, 3, 4, 5, 6, 0, 7, 6, 0, 1, 1, 5, 2,
                6, 5, 4, 1, 2, 6, 1), x.digest());
    }
}
