/** Promises 14 to 19: pace, left, mend, reads, wrong, turned. */
public final class CostsTest {
    public static void main(String[] args) {
        paceOfKinds();
        cost();
        paceRefused();
        left();
        mend();
        reads();
        wrong();
        turned();
        eightBends();
        Check.end();
    }

    /** One bend that holds 4 (5 with mud), at notes 0 .. 6. */
    private static void paces(int kind, int fog, int mud, int... due) {
        LeftCrest x = new LeftCrest();
        x.road(kind, fog);
        x.bend(1, 4 + mud, 3, 1);
        x.mud(0, mud);
        for (int note = 0; note <= 6; note++) {
            String call = "kind " + kind + ", fog " + fog + ", mud " + mud + ": pace(0, " + note + ", 0)";
            Check.due(call, due[note], x.pace(0, note, 0));
        }
        Check.due("kind " + kind + ": pace(0, NONE, 0)", due[3], x.pace(0, LeftCrest.NONE, 0));
    }

    private static void paceOfKinds() {
        paces(0, 0, 0, 2, 1, 2, 3, 4, 5, 6);
        paces(0, 9, 1, 2, 1, 2, 3, 4, 5, 6);
        paces(1, 3, 0, 4, 4, 4, 4, 4, 4, 4);
        paces(1, 3, 1, 4, 4, 4, 4, 4, 4, 4);
        paces(1, 4, 0, 2, 1, 2, 3, 4, 5, 6);
        paces(2, 0, 0, 3, 2, 3, 4, 5, 6, 7);
        paces(2, 9, 1, 3, 2, 3, 4, 5, 6, 7);
        paces(3, 0, 0, 1, 1, 1, 2, 3, 4, 5);
        paces(3, 9, 1, 1, 1, 1, 2, 3, 4, 5);
        paces(4, 6, 0, 2, 2, 2, 3, 4, 5, 6);
        paces(4, 7, 0, 1, 1, 1, 2, 3, 4, 5);
        paces(5, 0, 0, 3, 2, 3, 4, 5, 6, 7);
        paces(5, 0, 1, 1, 1, 1, 2, 3, 4, 5);
    }

    private static void cost() {
        LeftCrest x = Check.road("road 0 0;bend 9 4 5 1;");
        int[] due = {6, 9, 6, 3, 0, 7, 60};
        for (int note = 0; note <= 6; note++) Check.due("cost by " + note, due[note], x.pace(0, note, 1));
        Check.due("cost as noted", 7, x.pace(0, LeftCrest.NONE, 1));
        x.mud(0, 1);
        Check.due("cost as noted, with mud", 60, x.pace(0, LeftCrest.NONE, 1));
        Check.due("nothing is changed", 0, x.now(1));
    }

    private static void paceRefused() {
        LeftCrest x = Check.road("road 0 0;bend 9 4 5 1;");
        int[][] bad = {{1, 0, 0}, {-1, 0, 0}, {0, 7, 0}, {0, -2, 0}, {0, 0, 2}, {0, 0, -1}};
        for (int[] a : bad) Check.due("pace bad", LeftCrest.BAD, x.pace(a[0], a[1], a[2]));
        Check.due("pace bad: status", bad.length, x.status(0));
    }

    private static void left() {
        LeftCrest x = new LeftCrest();
        Check.due("left, no bends", 0, x.left());
        x = Check.road("road 0 0;bend 5 4 4 1;bend 2 3 5 2;bend 7 5 0 3;");
        Check.due("left", 5 + 62 + 16, x.left());
        x.drive(1);
        Check.due("left behind one", 62 + 16, x.left());
        x.drive(2);
        Check.due("left behind all", 0, x.left());
    }

    private static void mend() {
        LeftCrest x = Check.road("road 0 0;bend 1 4 5 1;bend 1 3 5 1;bend 1 5 5 1;bend 1 3 6 1;bend 1 2 3 1;");
        int[][] due = {{0, 0}, {60, 2}, {120, 10}, {127, 11}, {134, 27}, {134, 27}};
        for (int n = 0; n <= 5; n++) {
            Check.due("mend(" + n + ", 0)", due[n][0], x.mend(n, 0));
            Check.due("mend(" + n + ", 1)", due[n][1], x.mend(n, 1));
        }
        Check.due("mend(8, 1): fewest", 27, x.mend(8, 1));
        x.drive(2);
        Check.due("mend from the bend on", 67, x.mend(8, 0));
        Check.due("mend from the bend on", 24, x.mend(8, 1));
        LeftCrest y = Check.road("road 2 0;bend 1 1 1 1;bend 1 1 6 1;");
        Check.due("what no note mends stays: brave ones", 53, y.mend(8, 0));
        Check.due("what no note mends stays: which", 2, y.mend(8, 1));
        LeftCrest z = Check.road("road 0 0;bend 1 3 6 1;bend 1 3 6 1;");
        Check.due("of like ones the least", 1, z.mend(1, 1));
        Check.due("up to 6", 15, Check.road("road 0 0;bend 1 6 1 1;").mend(1, 0));
        Check.due("to none, too", 60, Check.road("road 0 0;bend 1 2 6 1;").mend(1, 0));
        Check.due("mend(9, 0)", LeftCrest.BAD, x.mend(9, 0));
        Check.due("mend(-1, 0)", LeftCrest.BAD, x.mend(-1, 0));
        Check.due("mend(0, 2)", LeftCrest.BAD, x.mend(0, 2));
        Check.due("mend(0, -1)", LeftCrest.BAD, x.mend(0, -1));
        Check.due("no note is changed", 6, x.of(3, 2));
    }

    private static void reads() {
        // unread, each costs 12; read, each costs 0: bends 0 and 1 can't both be said at 1 word for ten yards
        LeftCrest x = Check.road("road 0 0;bend 2 6 6 2;bend 2 6 6 3;bend 9 6 0 1;bend 1 4 4 9;");
        Check.due("reads(0, 0)", 0, x.reads(0, 0));
        Check.due("reads(0, 1)", 12 * 3 + 6, x.reads(0, 1));
        Check.due("reads(1, 0): the least of like ones", 1, x.reads(1, 0) & 3);
        Check.due("reads(1, 0): and the last, as there is time", 9, x.reads(1, 0));
        Check.due("reads(1, 1)", 12 + 12, x.reads(1, 1));
        Check.due("reads(2, 0)", 11, x.reads(2, 0));
        Check.due("reads(2, 1)", 12, x.reads(2, 1));
        x.drive(1);
        Check.due("from the bend as it is: too many words for it", 8, x.reads(1, 0));
        Check.due("from the bend as it is: how much", 24, x.reads(1, 1));
        Check.due("from the bend as it is, 2 words", 10, x.reads(2, 0));
        // one that is wrong is better not read; one that makes no odds is not read either
        LeftCrest y = Check.road("road 0 0;bend 9 2 6 1;bend 9 2 2 1;bend 9 3 3 1;");
        Check.due("reads: not the wrong one", 4, y.reads(9, 0));
        Check.due("reads: not the wrong one, how much", 0, y.reads(9, 1));
        Check.due("reads: none that makes no odds", 0, Check.road("road 0 0;bend 9 2 2 1;").reads(9, 0));
        // words said early must be paid for by all that come behind
        LeftCrest z = Check.road("road 0 0;bend 4 6 6 4;bend 1 6 6 1;bend 1 6 6 1;");
        Check.due("reads: all at once", 7, z.reads(1, 0));
        z.write(0, 3);
        z.bend(1, 5, 5, 2);
        Check.due("reads: the dearer ones first", 14, z.reads(1, 0));
        LeftCrest none = new LeftCrest();
        Check.due("reads, no bends", 0, none.reads(9, 0));
        Check.due("reads, no bends", 0, none.reads(9, 1));
        Check.due("reads(10, 0)", LeftCrest.BAD, x.reads(10, 0));
        Check.due("reads(-1, 0)", LeftCrest.BAD, x.reads(-1, 0));
        Check.due("reads(0, 2)", LeftCrest.BAD, x.reads(0, 2));
        Check.due("reads(0, -1)", LeftCrest.BAD, x.reads(0, -1));
    }

    private static void wrong() {
        LeftCrest x = Check.road("road 0 0;bend 1 6 6 1;bend 1 2 4 1;bend 1 1 2 1;bend 1 3 0 1;");
        int[] due = {-12, 60, 0, 0};
        for (int b = 0; b < due.length; b++) Check.due("wrong(" + b + ")", due[b], x.wrong(b));
        Check.due("wrong(4)", -1000, x.wrong(4));
        Check.due("wrong(-1)", -1000, x.wrong(-1));
        Check.due("wrong counts as BAD", 2, x.status(0));
    }

    private static void turned() {
        Check.due("turned, no bends", LeftCrest.NONE, new LeftCrest().turned());
        LeftCrest x = Check.road("road 0 0;bend 1 3 3 1;");
        Check.due("turned, one bend", LeftCrest.NONE, x.turned());
        x.bend(1, 4, 4, 1);
        Check.due("turned, by none less", LeftCrest.NONE, x.turned());
        x = Check.road("road 0 0;bend 1 5 4 1;bend 1 4 5 1;bend 1 2 6 1;bend 1 6 2 1;bend 1 2 6 1;");
        Check.due("turned, the first of like ones that are most", 2, x.turned());
        x.drive(5);
        Check.due("turned, driven or not", 2, x.turned());
        x.write(2, 2);
        x.write(3, 6);
        Check.due("turned, less than that", LeftCrest.NONE, Check.road("road 0 0;bend 1 2 2 1;bend 1 6 6 1;").turned());
        x.write(4, 2);
        Check.due("turned, the first pair then", 0, x.turned());
        Check.due("turned, 1 less", 0, Check.road("road 0 0;bend 1 1 3 1;bend 1 5 6 1;").turned());
        Check.due("turned, 3 more", LeftCrest.NONE, Check.road("road 0 0;bend 1 3 1 1;bend 1 3 3 1;").turned());
    }

    /** As many as there may be, each noted 2 too much but the last. */
    private static void eightBends() {
        LeftCrest x = new LeftCrest();
        for (int b = 0; b < 8; b++) x.bend(1, b == 7 ? 6 : 4, 6, 9);
        Check.due("8: left", 8 + 7 * 60, x.left());
        Check.due("8: mend", 7 * 60, x.mend(8, 0));
        Check.due("8: mend, which", 127, x.mend(8, 1));
        Check.due("8: reads", 128, x.reads(9, 0));
        Check.due("8: reads, how much", 7 * 6, x.reads(9, 1));
        Check.due("8: wrong", -12, x.wrong(7));
        Check.due("8: turned", LeftCrest.NONE, x.turned());
        x.heard(10);
        Check.due("8: heard", 7 * 6 + 12, x.part(0));
        Check.due("8: drive", 8 + 7 * 60, x.drive(8));
        Check.due("8: crashes", 7, x.now(2));
        Check.due("8: none to mend", 0, x.mend(8, 1));
        Check.due("8: none to read", 0, x.reads(9, 0) + x.reads(9, 1));
        Check.due("8: none is left", 0, x.left());
        x.heard(0);
        Check.due("8: none to hear", 0, x.part(0));
    }
}
