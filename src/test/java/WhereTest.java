/** Promises 20 to 29: felt, where, next, seen, forget, is, look, writes, heard, rallies. */
public final class WhereTest {
    public static void main(String[] args) {
        felt();
        whereAndNext();
        seen();
        forget();
        is();
        look();
        writes();
        heard();
        rallies();
        Check.end();
    }

    private static void felt() {
        LeftCrest x = new LeftCrest();
        Check.due("felt(0)", LeftCrest.BAD, x.felt(0));
        Check.due("felt(7)", LeftCrest.BAD, x.felt(7));
        Check.due("felt(1)", 1, x.felt(1));
        Check.due("felt(6)", 2, x.felt(6));
        Check.due("felt(3)", 3, x.felt(3));
        Check.due("a 4th", LeftCrest.FULL, x.felt(3));
        Check.due("a 4th that is bad", LeftCrest.BAD, x.felt(0));
        Check.due("felt: count", 3, x.count(3));
        Check.due("felt: status FULL", 1, x.status(2));
    }

    private static void whereAndNext() {
        LeftCrest x = Check.road("road 0 0;bend 1 3 0 1;bend 1 4 0 1;bend 1 3 0 1;bend 1 5 0 1;bend 1 3 0 1;"
                + "bend 1 4 0 1;bend 1 4 0 1;");
        Check.due("where, none felt", 127, x.where());
        Check.due("next, none felt", 3, x.next());
        x.felt(3);
        Check.due("where, 3", 1 | 4 | 16, x.where());
        Check.due("next, 3", 2, x.next());
        x.felt(4);
        Check.due("where, 3 4", 2 | 32, x.where());
        Check.due("next, 3 4", 2, x.next());
        x.felt(4);
        Check.due("where, 3 4 4", 64, x.where());
        Check.due("next, the last one", 0, x.next());
        x.mud(1, 1);
        x.forget(0);
        x.felt(3);
        x.felt(3);
        Check.due("where, as it holds with mud", 2 | 4, x.where());
        Check.due("next, as it holds with mud", 2, x.next());
        x.drive(7);
        Check.due("where, driven or not", 2 | 4, x.where());
        LeftCrest y = Check.road("road 0 0;bend 1 3 0 1;");
        y.felt(3);
        y.felt(3);
        Check.due("where, more felt than there are", 0, y.where());
        LeftCrest z = Check.road("road 0 0;bend 1 3 0 1;bend 1 5 0 1;");
        z.felt(3);
        Check.due("next behind the first", 1, z.next());
        Check.due("where, no bends", 0, new LeftCrest().where());
        Check.due("next, no bends", 0, new LeftCrest().next());
    }

    private static void seen() {
        LeftCrest x = new LeftCrest();
        int[][] bad = {{-1, 1, 0, 0, 1}, {7, 1, 0, 0, 1}, {0, 0, 0, 0, 1}, {0, 7, 0, 0, 1}, {0, 1, -1, 0, 1},
            {0, 1, 10, 0, 1}, {0, 1, 0, -1, 1}, {0, 1, 0, 2, 1}, {0, 1, 0, 0, 0}, {0, 1, 0, 0, 8}};
        for (int[] a : bad) Check.due("seen bad", LeftCrest.BAD, x.seen(a[0], a[1], a[2], a[3], a[4]));
        Check.due("seen bad: status", bad.length, x.status(0));
        Check.due("seen, least", 1, x.seen(0, 1, 0, 0, 1));
        Check.due("seen, most", 2, x.seen(6, 6, 9, 1, 7));
        for (int i = 3; i <= 6; i++) Check.due("seen", i, x.seen(1, 1, 1, 1, 1));
        Check.due("a 7th", LeftCrest.FULL, x.seen(1, 1, 1, 1, 1));
        Check.due("a 7th that is bad", LeftCrest.BAD, x.seen(1, 1, 1, 1, 0));
        Check.due("seen: count", 6, x.count(4));
    }

    private static void forget() {
        LeftCrest x = new LeftCrest();
        x.felt(1);
        x.felt(2);
        x.seen(1, 1, 1, 1, 1);
        Check.due("forget(2)", LeftCrest.BAD, x.forget(2));
        Check.due("forget(-1)", LeftCrest.BAD, x.forget(-1));
        Check.due("forget(0)", 2, x.forget(0));
        Check.due("no felt", 0, x.count(3));
        Check.due("paces stay", 1, x.count(4));
        Check.due("forget(0) again", 0, x.forget(0));
        Check.due("forget(1)", 1, x.forget(1));
        Check.due("no paces", 0, x.count(4));
    }

    private static int kindsBy(int n, int t, int f, int mud, int p) {
        LeftCrest x = new LeftCrest();
        x.seen(n, t, f, mud, p);
        return x.is();
    }

    private static void is() {
        Check.due("is, none seen", 63, new LeftCrest().is());
        Check.due("is: plain, ear", 1 | 16, kindsBy(4, 2, 0, 0, 4));
        Check.due("is: sight", 2, kindsBy(4, 2, 3, 0, 2));
        Check.due("is: sight in fog, as plain", 1 | 2 | 16, kindsBy(4, 2, 4, 0, 4));
        Check.due("is: brave, muddy", 4 | 32, kindsBy(4, 2, 9, 0, 5));
        Check.due("is: careful, muddy with mud", 8 | 32, kindsBy(4, 2, 4, 1, 3));
        Check.due("is: careful, ear in fog", 8 | 16, kindsBy(4, 2, 7, 0, 3));
        Check.due("is: none", 0, kindsBy(4, 2, 9, 0, 7));
        LeftCrest x = new LeftCrest();
        x.seen(4, 2, 4, 1, 3);
        x.seen(4, 2, 7, 0, 3);
        Check.due("is, by all of them", 8, x.is());
        x.driver(2, 2);
        Check.due("is, whoever drives", 8, x.is());
    }

    private static void look() {
        Check.due("look, no bends", LeftCrest.NONE, new LeftCrest().look());
        LeftCrest x = Check.road("road 0 0;bend 1 4 4 1;bend 1 2 5 1;mud 1;");
        Check.due("look, two at most alike", 1, x.look());
        x.seen(4, 2, 4, 0, 4);
        Check.due("look: plain, sight, ear: by one that holds unlike its note", 1, x.look());
        LeftCrest y = Check.road("road 0 0;bend 1 4 4 1;");
        y.seen(4, 4, 0, 0, 4);
        y.seen(4, 2, 4, 0, 4);
        Check.due("is: plain, sight, ear", 1 | 2 | 16, y.is());
        Check.due("look: ear is told from the others in fog 7", 70, y.look());
        LeftCrest z = Check.road("road 0 0;bend 1 6 6 1;bend 1 6 6 1;bend 1 5 6 1;mud 1;");
        z.seen(6, 6, 9, 0, 7);
        Check.due("look: brave, muddy: by mud", 1, z.look());
        z.mud(1, 0);
        Check.due("look: brave, muddy: of like ones the least", 0, z.look());
        y.seen(0, 1, 9, 0, 7);
        Check.due("look, no kind", LeftCrest.NONE, y.look());
        Check.due("nothing is refused", 0, y.status(0) + y.status(1) + y.status(2));
    }

    private static int pairs(int kind, int fog, int holds, int note) {
        LeftCrest x = new LeftCrest();
        x.road(kind, fog);
        x.bend(1, holds, note, 1);
        return x.writes(0);
    }

    private static void writes() {
        // plain, holds 4, note 4: as it is 0; he would crash no further than 7, she would write less for 1
        Check.due("writes: as it is, or less and more", 1 | 8, pairs(0, 0, 4, 4));
        Check.due("writes: slow, so more", 4, pairs(0, 0, 5, 3));
        Check.due("writes: none is no less than none", 1, pairs(0, 0, 2, 0));
        Check.due("writes: less than 1 is none, 2", 8, pairs(0, 0, 5, 1));
        Check.due("writes: crash anyhow, so more", 4, pairs(0, 0, 1, 6));
        Check.due("writes: 7 at most", 2 | 4, pairs(2, 0, 6, 6));
        Check.due("writes: by sight, she can't help", 1, pairs(1, 0, 3, 6));
        LeftCrest x = new LeftCrest();
        Check.due("writes, no bends", LeftCrest.BAD, x.writes(0));
        x.bend(1, 1, 1, 1);
        Check.due("writes(1)", LeftCrest.BAD, x.writes(1));
        Check.due("writes(-1)", LeftCrest.BAD, x.writes(-1));
        x.writes(0);
        Check.due("writes: no note is changed", 1, x.of(0, 2));
        Check.due("writes: nothing to undo", 0, x.count(5));
    }

    private static void fraction(String call, LeftCrest x, long above, long below) {
        Check.due(call + ", above", above, x.part(0));
        Check.due(call + ", below", below, x.part(1));
    }

    private static void heard() {
        LeftCrest x = Check.road("road 0 0;bend 1 4 4 1;bend 1 2 6 1;bend 1 3 0 1;");
        // as noted 0, 60, 3; as none 6, 0, 3
        Check.due("heard(0)", 1, x.heard(0));
        fraction("heard(0)", x, 63, 1);
        x.heard(10);
        fraction("heard(10)", x, 9, 1);
        x.heard(1);
        fraction("heard(1), 576 by 10", x, 288, 5);
        x.heard(5);
        fraction("heard(5)", x, 36, 1);
        LeftCrest y = Check.road("road 0 0;bend 1 3 3 1;");
        y.heard(7);
        fraction("heard(7) of 3", y, 21, 10);
        y.heard(5);
        fraction("heard(5) of 3", y, 3, 2);
        x.drive(2);
        x.heard(3);
        fraction("heard(3), the last one alone", x, 3, 1);
        Check.due("heard(11)", LeftCrest.BAD, x.heard(11));
        Check.due("heard(-1)", LeftCrest.BAD, x.heard(-1));
        fraction("refused, it stays", x, 3, 1);
        x.drive(1);
        x.heard(7);
        fraction("none left", x, 0, 1);
    }

    private static void rallies() {
        LeftCrest x = Check.road("road 0 0;bend 5 4 4 1;bend 2 3 5 2;bend 7 5 0 3;mud 2;");
        Check.due("rallies(5, 0)", 0, x.rallies(5, 0));
        // seed 0: 12345 is kind 0, fog 0: 5, 2 + 60, 7 + 6
        Check.due("rallies(0, 1)", 80, x.rallies(0, 1));
        // then 1406932606: 21468 by 6 is kind 0, 1341 by 10 is fog 1
        Check.due("rallies(0, 2)", 160, x.rallies(0, 2));
        // then 654583775: 9988 by 6 is kind 4, 624 by 10 is fog 4: 5, 2 + 60, 7 + 6
        Check.due("rallies(0, 3)", 240, x.rallies(0, 3));
        // seed 1: 1103527590: 16838 by 6 is kind 2, 1052 by 10 is fog 2: 5 + 7, 2 + 60, 7 + 3
        Check.due("rallies(1, 1)", 84, x.rallies(1, 1));
        x.drive(3);
        x.driver(3, 9);
        Check.due("rallies, from 0, whoever drives", 84, x.rallies(1, 1));
        Check.due("rallies(-1, 0)", LeftCrest.BAD, x.rallies(-1, 0));
        Check.due("rallies(1000000, 0)", LeftCrest.BAD, x.rallies(1000000, 0));
        Check.due("rallies(0, -1)", LeftCrest.BAD, x.rallies(0, -1));
        Check.due("rallies(0, 61)", LeftCrest.BAD, x.rallies(0, 61));
        Check.holds("rallies(999999, 60)", x.rallies(999999, 60) > 0);
    }
}
