import java.math.BigInteger;
import java.util.ArrayList;
import java.util.List;
import java.util.function.Supplier;

/** Promises 30 to 35: part, image, from, status, count, digest; and the 512th call. */
final class ImagesEdges {
    private ImagesEdges() {
    }

    static void run() {
        part();
        image();
        imageOver();
        from();
        fromNone();
        keepsAll();
        keepsNotThese();
        status();
        statusBad();
        count();
        digest();
        digestWraps();
        lastCall();
    }

    private static void part() {
        Edge.says(30, "THE FRACTION: above (0), below (1). BAD.");
        Edge.range(0, 1, States::halfway, (x, what) -> x.part(what));
        Edge.taken(0, new LeftCrest(), x -> x.part(0));
        Edge.taken(1, new LeftCrest(), x -> x.part(1));
        LeftCrest x = States.alike(1, 1, 3, 3, 1);
        x.heard(7);
        Edge.taken(21, x, y -> y.part(0));
        Edge.taken(10, x, y -> y.part(1));
    }

    private static void image() {
        Edge.says(31, "An IMAGE is kept: 1. BAD.");
        Edge.range(0, 1, States::halfway, (x, i) -> x.image(i));
        for (Supplier<LeftCrest> made : States.ALL) {
            Edge.taken(1, made.get(), x -> x.image(0));
            Edge.taken(1, made.get(), x -> x.image(1));
            LeftCrest x = made.get();
            long before = x.digest();
            x.image(0);
            Edge.due("all goes on as it is", before, x.digest());
        }
    }

    private static void imageOver() {
        Edge.says(0, "IMAGES 0, 1 keep all");
        LeftCrest x = new LeftCrest();
        x.image(0);
        x.bend(1, 1, 1, 1);
        x.image(1);
        x.bend(1, 1, 1, 1);
        x.from(0);
        Edge.due("image 0", 0, x.count(0));
        x.from(1);
        Edge.due("image 1", 1, x.count(0));
        x.bend(1, 1, 1, 1);
        x.image(0);
        x.road(0, 0);
        x.from(0);
        Edge.due("image 0 over the one there was", 2, x.count(0));
        x.from(1);
        Edge.due("image 1 as it was", 1, x.count(0));
    }

    private static void from() {
        Edge.says(32, "It goes on from an IMAGE: 1. BAD;");
        Edge.range(0, 1, States::full, (x, i) -> x.from(i));
        LeftCrest x = States.full();
        Edge.taken(1, x, y -> y.from(0));
        long first = x.digest();
        x.write(0, 5);
        x.drive(1);
        x.mud(1, 1);
        x.felt(1);
        x.forget(1);
        Edge.taken(1, x, y -> y.from(0));
        Edge.due("as it was kept, again", first, x.digest());
        x.road(0, 0);
        Edge.taken(1, x, y -> y.from(0));
        Edge.due("as it was kept, behind a road", first, x.digest());
    }

    private static void fromNone() {
        Edge.says(32, "NO: none was kept.");
        Edge.refused(LeftCrest.NO, LeftCrest::new, x -> x.from(0));
        Edge.refused(LeftCrest.NO, LeftCrest::new, x -> x.from(1));
        Edge.refused(LeftCrest.NO, States::halfway, x -> x.from(0));
        Edge.refused(LeftCrest.NO, States::drivenOut, x -> x.from(1));
        Edge.refused(LeftCrest.NO, () -> {
            LeftCrest x = States.drivenOut();
            x.image(0);
            return x;
        }, x -> x.from(1));
        Edge.refused(LeftCrest.NO, () -> {
            LeftCrest x = States.drivenOut();
            x.image(2);
            x.image(-1);
            return x;
        }, x -> x.from(0));
    }

    /** The state that is kept goes on, and may be undone, as one that was never left. */
    private static void keepsAll() {
        Edge.says(0, "what may be undone they keep; it goes on from one");
        for (Supplier<LeftCrest> made : States.ALL) {
            for (int i = 0; i < 2; i++) {
                LeftCrest x = made.get();
                LeftCrest y = made.get();
                x.image(i);
                y.image(i);
                x.road(3, 3);
                for (int b = 0; b < 8; b++) x.bend(9, 5, 3, 9);
                for (int k = 0; k < 8; k++) x.mud(k, 1);
                for (int k = 0; k < 8; k++) x.write(k, 4);
                for (int k = 0; k < 3; k++) x.felt(5);
                for (int k = 0; k < 6; k++) x.seen(1, 1, 1, 1, 1);
                x.drive(8);
                x.from(i);
                Edge.row("all but what is not kept", Edge.everything(y), Edge.everything(x));
            }
        }
    }

    private static void keepsNotThese() {
        Edge.says(0, "keep all but them, THE TEXT, THE FRACTION and STATUS");
        LeftCrest x = States.alike(1, 1, 3, 3, 1);
        x.type('a');
        x.heard(5);
        x.undo();
        x.image(0);
        x.type('b');
        x.heard(10);
        x.undo();
        x.drive(9);
        for (int i = 0; i < 4; i++) x.felt(1);
        x.image(1);
        x.from(0);
        Edge.due("THE TEXT", 2, x.count(6));
        Edge.row("THE FRACTION", new long[] {3, 1}, x.part(0), x.part(1));
        Edge.row("STATUS", new long[] {1, 2, 1}, Edge.status(x));
        Edge.due("the other image is there yet", 1, x.from(1));
        Edge.due("and has what was felt", 3, x.count(3));
        Edge.due("this one, too", 1, x.from(0));
        Edge.due("and has none felt", 0, x.count(3));
    }

    private static void status() {
        Edge.says(0, "how many calls were refused as BAD, NO, FULL");
        LeftCrest x = new LeftCrest();
        Edge.row("none", new long[3], Edge.status(x));
        for (int i = 1; i <= 100; i++) {
            x.drive(0);
            Edge.due("BAD", i, x.status(0));
        }
        for (int i = 1; i <= 60; i++) {
            x.drive(1);
            Edge.due("NO", i, x.status(1));
        }
        for (int i = -2; i <= 60; i++) {
            x.felt(1);
            Edge.due("FULL", Math.max(i, 0), x.status(2));
        }
        Edge.row("all", new long[] {100, 60, 60}, Edge.status(x));
        Edge.row("wrong and status may be BAD", new long[] {-1000, -1}, x.wrong(0), x.status(3));
        Edge.row("NONE and a fault are not refused", new long[] {-1, -1, -10}, x.turned(), x.look(), x.read());
        Edge.says(33, "STATUS: BAD (0), NO (1), FULL (2).");
        Edge.row("in the end", new long[] {102, 60, 60}, x.status(0), x.status(1), x.status(2));
    }

    private static void statusBad() {
        Edge.says(33, "-1: another what (counts as BAD).");
        int[] bad = {-1, 3, 4, 256, 65536, -256, Integer.MIN_VALUE, Integer.MAX_VALUE};
        for (Supplier<LeftCrest> made : States.ALL) {
            for (int what : bad) Edge.refused(LeftCrest.BAD, -1, made, x -> x.status(what));
        }
    }

    private static void count() {
        Edge.says(34, "How many: 0 BENDS, 1 NOTES that there are, 2 with MUD, 3 FELT, 4 PACES, 5 that may be undone, "
                + "6 bytes of THE TEXT. BAD.");
        Edge.range(0, 6, States::halfway, (x, what) -> x.count(what));
        LeftCrest x = States.full();
        for (int b = 0; b < 8; b++) x.mud(b, 1);
        for (int b = 0; b < 8; b++) x.write(b, 6);
        Edge.row("the most of each", new long[] {8, 8, 8, 3, 6, 8, 150}, x.count(0), x.count(1), x.count(2), x.count(3),
                x.count(4), x.count(5), x.count(6));
        for (int b = 0; b < 8; b++) x.write(b, 0);
        Edge.due("no notes", 0, x.count(1));
        x.write(0, 1);
        x.write(7, 1);
        Edge.due("the first, the last", 2, x.count(1));
    }

    /** By great numbers, cut to 64 bits at the end. */
    private static long sum(long... values) {
        BigInteger h = BigInteger.valueOf(1361);
        for (long v : values) h = h.multiply(BigInteger.valueOf(31)).add(BigInteger.valueOf(v));
        return h.longValue();
    }

    private static void digest() {
        Edge.says(35, "h = 1361; then h = 31 h + v for each v: count(0) to count(6); now(0) to now(4)");
        Edge.taken(sum(0, 0, 0, 0, 0, 0, 0, 0, 0, 0, 0, 0, 0, 1), new LeftCrest(), LeftCrest::digest);
        Edge.says(35, "of BENDS YARDS, TRUE, NOTE, WORDS, MUD (1, 0); FELT ones; of PACES n, t, f, mud, p; THE FRACTION.");
        LeftCrest x = States.bends(new int[] {9, 6, 5, 4}, new int[] {1, 2, 0, 3});
        x.mud(0, 1);
        x.driver(5, 8);
        x.felt(6);
        x.felt(1);
        x.seen(6, 5, 4, 0, 3);
        x.seen(1, 2, 3, 1, 4);
        x.heard(3);
        x.type('a');
        x.drive(1);
        // muddy, by 5 at 4, holds 5: 9 and 3
        Edge.taken(sum(2, 1, 1, 2, 2, 1, 1, 1, 12, 0, 5, 8, 9, 6, 5, 4, 1, 1, 2, 0, 3, 0, 6, 1, 6, 5, 4, 0, 3, 1, 2, 3, 1, 4,
                x.part(0), x.part(1)), x, LeftCrest::digest);
    }

    private static void digestWraps() {
        Edge.says(35, "h = 31 h + v");
        // 14 times 31 is beyond 64 bits for a new object already
        Edge.due("new", new BigInteger("1361").multiply(BigInteger.valueOf(31).pow(14)).add(BigInteger.ONE).longValue(),
                new LeftCrest().digest());
        LeftCrest x = States.full();
        List<Long> all = new ArrayList<>();
        for (int what = 0; what <= 6; what++) all.add((long) x.count(what));
        for (int what = 0; what <= 4; what++) all.add((long) x.now(what));
        for (int b = 0; b < 8; b++) {
            for (int what = 0; what <= 4; what++) all.add((long) x.of(b, what));
        }
        for (long felt : new long[] {2, 3, 3}) all.add(felt);
        for (long i = 0; i < 6; i++) all.addAll(List.of(i, 6 - i, 9 - i, 0L, i == 0 ? 3 : i + 1));
        all.add(x.part(0));
        all.add(x.part(1));
        Edge.due("full", sum(all.stream().mapToLong(Long::longValue).toArray()), x.digest());
    }

    private static void lastCall() {
        Edge.says(0, "An object is used for at most 512 calls after it has been made");
        LeftCrest refused = new LeftCrest();
        for (int call = 1; call < 512; call++) refused.status(3);
        Edge.due("the 512th, behind 511 refused", 511, refused.status(0));
        LeftCrest typed = new LeftCrest();
        for (int call = 1; call < 512; call++) typed.type('a');
        Edge.due("the 512th, behind 511 bytes", 361, typed.status(2));
        LeftCrest written = States.alike(1, 1, 1, 1, 1);
        for (int call = 2; call < 512; call++) written.write(0, call % 7);
        Edge.due("the 512th, behind 510 written", 0, written.undo());
        LeftCrest imaged = States.alike(1, 1, 1, 1, 1);
        for (int call = 2; call < 512; call++) Edge.due("image, from", 1, call % 2 == 0 ? imaged.image(0) : imaged.from(0));
        Edge.due("the 512th, behind 255 images", 1, imaged.count(0));
    }
}
