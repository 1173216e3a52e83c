import java.util.List;
import java.util.function.Supplier;

/** Objects as runs of calls leave them, each made anew and always alike. */
final class States {
    /** New, halfway, with all places taken, with no bend left. */
    static final List<Supplier<LeftCrest>> ALL =
            List.of(LeftCrest::new, States::halfway, States::full, States::drivenOut);

    private States() {
    }

    static void type(LeftCrest x, String text) {
        for (int i = 0; i < text.length(); i++) x.type(text.charAt(i));
    }

    /** Three bends, the second with mud, the first driven; something of all else, one image. */
    static LeftCrest halfway() {
        LeftCrest x = new LeftCrest();
        type(x, "road 3 8;bend 9 6 1 2;mud 0;");
        x.road(4, 5);
        x.bend(5, 4, 4, 3);
        x.bend(2, 3, 5, 4);
        x.bend(7, 5, 0, 2);
        x.mud(1, 1);
        x.felt(4);
        x.seen(4, 4, 6, 0, 4);
        x.heard(3);
        x.write(2, 6);
        x.image(1);
        x.drive(1);
        x.write(2, 3);
        return x;
    }

    /** Eight bends, three felt, six paces, eight that may be undone, 150 bytes, both images. */
    static LeftCrest full() {
        LeftCrest x = new LeftCrest();
        type(x, "road 1 2;bend 9 6 1 2;bend 2 2 6 1;mud 1;drive 1;");
        type(x, " ".repeat(150 - x.count(6)));
        x.road(5, 9);
        for (int b = 0; b < 8; b++) x.bend(9 - b, 1 + b % 6, 6 - b % 7, 1 + b);
        for (int b = 0; b < 8; b += 3) x.mud(b, 1);
        x.felt(2);
        x.felt(3);
        x.felt(3);
        for (int i = 0; i < 6; i++) x.seen(i, 6 - i, 9 - i, 0, i == 0 ? 3 : i + 1);
        x.heard(7);
        x.drive(1);
        x.image(0);
        for (int b = 1; b < 8; b++) x.write(b, b % 7);
        x.image(1);
        x.write(0, 2);
        x.drive(2);
        return x;
    }

    /** Two bends, both driven one by one; no image. */
    static LeftCrest drivenOut() {
        LeftCrest x = new LeftCrest();
        type(x, "road 0 0;bend 1 1 1 1");
        x.road(2, 0);
        x.bend(1, 2, 3, 1);
        x.bend(3, 6, 6, 9);
        x.felt(2);
        x.felt(6);
        x.drive(1);
        x.drive(1);
        return x;
    }

    /** A plain driver's road in no fog: for each bend YARDS, TRUE, NOTE, WORDS. */
    static LeftCrest bends(int[]... rows) {
        LeftCrest x = new LeftCrest();
        for (int[] row : rows) x.bend(row[0], row[1], row[2], row[3]);
        return x;
    }

    /** So many bends, all alike. */
    static LeftCrest alike(int count, int yards, int truth, int note, int words) {
        LeftCrest x = new LeftCrest();
        for (int b = 0; b < count; b++) x.bend(yards, truth, note, words);
        return x;
    }
}
