/** Promises 1 to 8: a new object, road, bend, mud, driver, type, clear, read. */
public final class RoadTest {
    public static void main(String[] args) {
        newObject();
        road();
        bend();
        mud();
        driver();
        typeAndClear();
        readItems();
        readInOrder();
        readFaults();
        readFullText();
        readTakesThePlace();
        Check.end();
    }

    private static void newObject() {
        LeftCrest x = new LeftCrest();
        for (int what = 0; what <= 6; what++) Check.due("new: count(" + what + ")", 0, x.count(what));
        for (int what = 0; what <= 4; what++) Check.due("new: now(" + what + ")", 0, x.now(what));
        for (int what = 0; what <= 2; what++) Check.due("new: status(" + what + ")", 0, x.status(what));
        Check.due("new: part(0)", 0, x.part(0));
        Check.due("new: part(1)", 1, x.part(1));
        Check.due("new: from(0)", LeftCrest.NO, x.from(0));
        Check.due("new: from(1)", LeftCrest.NO, x.from(1));
        Check.due("new: undo", LeftCrest.NO, x.undo());
    }

    private static void road() {
        LeftCrest x = new LeftCrest();
        x.bend(3, 4, 5, 6);
        x.bend(1, 2, 3, 4);
        x.mud(1, 1);
        x.felt(3);
        x.seen(1, 1, 1, 1, 1);
        x.drive(1);
        x.write(1, 0);
        x.heard(5);
        x.type('r');
        x.image(1);
        x.of(9, 0);
        long above = x.part(0);
        long below = x.part(1);
        Check.due("road(5, 9)", 2, x.road(5, 9));
        for (int what = 0; what <= 5; what++) Check.due("road: count(" + what + ")", 0, x.count(what));
        for (int what = 0; what <= 2; what++) Check.due("road: now(" + what + ")", 0, x.now(what));
        Check.due("road: kind", 5, x.now(3));
        Check.due("road: fog", 9, x.now(4));
        Check.due("road: text stays", 1, x.count(6));
        Check.due("road: fraction stays", above, x.part(0));
        Check.due("road: fraction stays", below, x.part(1));
        Check.due("road: status stays", 1, x.status(0));
        Check.due("road: bend anew has no mud", 0, x.bend(1, 1, 1, 1));
        x.bend(1, 1, 1, 1);
        Check.due("road: no mud left", 0, x.of(1, 4));
        Check.due("road: image stays", 1, x.from(1));
        Check.due("road: image's bends", 2, x.count(0));
        Check.due("road again", 2, x.road(0, 0));
        int[][] bad = {{-1, 0}, {6, 0}, {0, -1}, {0, 10}, {Integer.MIN_VALUE, 0}, {0, Integer.MAX_VALUE}};
        x.bend(1, 1, 1, 1);
        for (int[] a : bad) Check.due("road bad", LeftCrest.BAD, x.road(a[0], a[1]));
        Check.due("road bad: bends stay", 1, x.count(0));
        Check.due("road bad: status", 7, x.status(0));
    }

    private static void bend() {
        LeftCrest x = new LeftCrest();
        int[][] bad = {{0, 1, 0, 1}, {10, 1, 0, 1}, {1, 0, 0, 1}, {1, 7, 0, 1}, {1, 1, -1, 1}, {1, 1, 7, 1},
            {1, 1, 0, 0}, {1, 1, 0, 10}, {-5, 1, 0, 1}};
        for (int[] a : bad) Check.due("bend bad", LeftCrest.BAD, x.bend(a[0], a[1], a[2], a[3]));
        Check.due("bend bad: none came", 0, x.count(0));
        Check.due("bend, least", 0, x.bend(1, 1, 0, 1));
        Check.due("bend, most", 1, x.bend(9, 6, 6, 9));
        for (int b = 2; b < 8; b++) Check.due("bend " + b, b, x.bend(b, 3, 2, b));
        Check.due("a 9th bend", LeftCrest.FULL, x.bend(1, 1, 1, 1));
        Check.due("a 9th bend that is bad", LeftCrest.BAD, x.bend(0, 1, 1, 1));
        Check.due("bend: FULL counts", 1, x.status(2));
        Check.due("bend: BAD counts", bad.length + 1, x.status(0));
        Check.due("bend: 8", 8, x.count(0));
        int[] due = {9, 6, 6, 9, 0, 6};
        for (int what = 0; what < due.length; what++) Check.due("of(1, " + what + ")", due[what], x.of(1, what));
        LeftCrest y = Check.road("road 0 0;bend 1 1 1 1;");
        y.write(0, 2);
        Check.due("bend: one may be undone", 1, y.count(5));
        y.bend(0, 0, 0, 0);
        Check.due("bend refused: it still may be", 1, y.count(5));
        y.bend(1, 1, 1, 1);
        Check.due("bend: none may be undone behind it", LeftCrest.NO, y.undo());
    }

    private static void mud() {
        LeftCrest x = new LeftCrest();
        Check.due("mud without bends", LeftCrest.BAD, x.mud(0, 1));
        x.bend(1, 1, 1, 1);
        x.bend(1, 6, 1, 1);
        x.write(0, 3);
        Check.due("mud bad b", LeftCrest.BAD, x.mud(2, 1));
        Check.due("mud bad b", LeftCrest.BAD, x.mud(-1, 1));
        Check.due("mud bad is", LeftCrest.BAD, x.mud(0, 2));
        Check.due("mud bad is", LeftCrest.BAD, x.mud(0, -1));
        Check.due("mud refused: undo stays", 1, x.count(5));
        Check.due("mud(1, 1)", 0, x.mud(1, 1));
        Check.due("mud: none may be undone", 0, x.count(5));
        Check.due("mud: holds less", 5, x.of(1, 5));
        Check.due("mud: true stays", 6, x.of(1, 1));
        Check.due("mud again", 1, x.mud(1, 1));
        Check.due("mud: count", 1, x.count(2));
        Check.due("mud(0, 1)", 0, x.mud(0, 1));
        Check.due("mud: holds 1 at least", 1, x.of(0, 5));
        Check.due("mud: count", 2, x.count(2));
        Check.due("mud off", 1, x.mud(1, 0));
        Check.due("mud off: holds", 6, x.of(1, 5));
        Check.due("mud off again", 0, x.mud(1, 0));
    }

    private static void driver() {
        LeftCrest x = Check.road("road 1 2;bend 1 2 3 4;");
        x.felt(2);
        x.write(0, 1);
        int[][] bad = {{-1, 0}, {6, 0}, {0, -1}, {0, 10}};
        for (int[] a : bad) Check.due("driver bad", LeftCrest.BAD, x.driver(a[0], a[1]));
        Check.due("driver bad: kind stays", 1, x.now(3));
        Check.due("driver bad: undo stays", 1, x.count(5));
        Check.due("driver(5, 9)", 1, x.driver(5, 9));
        Check.due("driver: kind", 5, x.now(3));
        Check.due("driver: fog", 9, x.now(4));
        Check.due("driver: bends stay", 1, x.count(0));
        Check.due("driver: felt stay", 1, x.count(3));
        Check.due("driver: none may be undone", LeftCrest.NO, x.undo());
    }

    private static void typeAndClear() {
        LeftCrest x = new LeftCrest();
        Check.due("clear, none", 0, x.clear());
        Check.due("type(-1)", LeftCrest.BAD, x.type(-1));
        Check.due("type(128)", LeftCrest.BAD, x.type(128));
        Check.due("type(0)", 1, x.type(0));
        Check.due("type(127)", 2, x.type(127));
        for (int i = 3; i <= 150; i++) Check.due("type", i, x.type(' '));
        Check.due("type, 151", LeftCrest.FULL, x.type(' '));
        Check.due("type, 151 and bad", LeftCrest.BAD, x.type(200));
        Check.due("type: count", 150, x.count(6));
        Check.due("type: status FULL", 1, x.status(2));
        Check.due("clear", 150, x.clear());
        Check.due("clear: count", 0, x.count(6));
        Check.due("type anew", 1, x.type('a'));
    }

    private static void readItems() {
        LeftCrest x = new LeftCrest();
        Check.due("road alone", 1, Check.read(x, "road 5 9;"));
        Check.due("road alone: kind", 5, x.now(3));
        Check.due("road alone: fog", 9, x.now(4));
        Check.due("blanks", 3, Check.read(x, "  road  0   4 ;  bend 1  2 3 4  ; mud 0 ;  "));
        Check.due("no blanks where they part none", 3, Check.read(x, "road0 4;bend1 2 3 4;mud0;"));
        Check.due("two figures", 2, Check.read(x, "road 00 04;bend 09 06 00 01;"));
        Check.due("two figures: fog", 4, x.now(4));
        Check.due("two figures: yards", 9, x.of(0, 0));
        Check.due("8 bends", 9, Check.read(x, "road 1 1;bend1 1 1 1;bend2 2 2 2;bend3 3 3 3;bend4 4 4 4;"
                + "bend5 5 5 5;bend6 6 6 6;bend7 6 6 7;bend8 6 6 8;"));
        Check.due("8 bends: count", 8, x.count(0));
        Check.due("8 bends: the last", 8, x.of(7, 3));
        Check.due("mud twice", 4, Check.read(x, "road 1 1;bend 1 1 1 1;mud 0;mud 0;"));
        Check.due("mud twice: one", 1, x.count(2));
        Check.due("the text stays", 34, x.count(6));
        Check.due("read again", 4, x.read());
    }

    private static void readInOrder() {
        LeftCrest x = Check.road("road 0 0;bend 4 6 6 1;drive 1;mud 0;bend 2 1 5 1;drive 1;");
        Check.due("driven ahead of the mud", 4 + 2 + 60, x.now(1));
        Check.due("driven: the bend", 2, x.now(0));
        Check.due("driven: crashes", 1, x.now(2));
        Check.due("driven: mud since", 1, x.of(0, 4));
        Check.due("driven: nothing to undo", LeftCrest.NO, x.undo());
        x = Check.road("road 0 0;bend 4 6 6 1;mud 0;drive 1;");
        Check.due("driven behind the mud", 4 + 7, x.now(1));
    }

    private static void fault(String text, int place) {
        LeftCrest x = new LeftCrest();
        x.bend(9, 5, 4, 3);
        x.felt(2);
        x.write(0, 1);
        long before = x.digest();
        Check.due("read of '" + text + "'", -10 - place, Check.read(x, text));
        Check.due("fault: it is not refused as BAD, NO or FULL", 0, x.status(0) + x.status(1) + x.status(2));
        x.clear();
        Check.due("fault: all stays", before, x.digest());
    }

    private static void readFaults() {
        fault("", 0);
        fault("   ", 3);
        fault("roa", 0);
        fault("road", 4);
        fault("road ", 5);
        fault("road 0", 6);
        fault("road 0 0", 8);
        fault("road 0 0  ", 10);
        fault("roads 0 0;", 0);
        fault("Road 0 0;", 0);
        fault("load 0 0;", 0);
        fault("roar 0 0;", 0);
        fault("road 0 0;send 1 1 1 1;", 9);
        fault("road 0 0;bend 1 1 1 1;bud 0;", 22);
        fault(" bend 1 1 1 1;", 1);
        fault("; road 0 0;", 0);
        fault("7", 0);
        fault("road 6 0;", 5);
        fault("road 0 10;", 7);
        fault("road 0;", 6);
        fault("road 0 0 0;", 9);
        fault("road x 0;", 5);
        fault("road 000 0;", 5);
        fault("road 0 0000", 7);
        fault("road -1 0;", 5);
        fault("road 0 0;;", 9);
        fault("road 0 0 road 0 0;", 9);
        fault("road 0 0;road 0 0;", 9);
        fault("road 0 0; jump 1;", 10);
        fault("road 0 0;bend 0 1 1 1;", 14);
        fault("road 0 0;bend 10 1 1 1;", 14);
        fault("road 0 0;bend 1 0 1 1;", 16);
        fault("road 0 0;bend 1 7 1 1;", 16);
        fault("road 0 0;bend 1 1 7 1;", 18);
        fault("road 0 0;bend 1 1 1 0;", 20);
        fault("road 0 0;bend 1 1 1 1", 21);
        fault("road 0 0;bend 1 1 1;", 19);
        fault("road 0 0;bend 1 1 1 1 1;", 22);
        fault("road 0 0;mud 0;", 13);
        fault("road 0 0;bend 1 1 1 1;mud 1;", 26);
        fault("road 0 0;bend 1 1 1 1;mud;", 25);
        fault("road 0 0;bend 1 1 1 1;mud 0 1;", 28);
        fault("road 0 0;drive 1;", 15);
        fault("road 0 0;bend 1 1 1 1;drive 0;", 28);
        fault("road 0 0;bend 1 1 1 1;drive 2;", 28);
        fault("road 0 0;bend 1 1 1 1;drive 1;drive 1;", 36);
        fault("road 0 0;\t", 9);
        fault("road 0 0;" + (char) 0, 9);
        fault("road 0 0;bend 1,1 1 1;", 15);
        String eight = "road 1 1;bend1 1 1 1;bend2 2 2 2;bend3 3 3 3;bend4 4 4 4;"
                + "bend5 5 5 5;bend6 6 6 6;bend7 6 6 7;bend8 6 6 8;";
        fault(eight + " bend x", eight.length() + 1);
        fault(eight + "drive 9;", eight.length() + 6);
        fault(eight + "mud 8;", eight.length() + 4);
    }

    private static void readFullText() {
        LeftCrest x = new LeftCrest();
        Check.due("150 blanks", -10 - 150, Check.read(x, " ".repeat(150)));
        Check.due("150 letters", -10, Check.read(x, "a".repeat(150)));
        Check.due("150 figures", -10, Check.read(x, "1".repeat(150)));
        Check.due("150 bytes, blanks last", 1, Check.read(x, "road 3 4;" + " ".repeat(141)));
        Check.due("150 bytes, ; last", 1, Check.read(x, " ".repeat(141) + "road 4 3;"));
        Check.due("150 bytes: kind", 4, x.now(3));
        Check.due("150 bytes, a number last", -10 - 150, Check.read(x, " ".repeat(142) + "road 4 3"));
        Check.due("150 bytes, a word last", -10 - 150, Check.read(x, " ".repeat(146) + "road"));
        String many = "road 0 0;bend 1 1 1 1;" + "mud0;".repeat(25);
        Check.due("as many items as may be", 27, Check.read(x, many));
    }

    private static void readTakesThePlace() {
        LeftCrest x = new LeftCrest();
        x.bend(1, 2, 3, 4);
        x.mud(0, 1);
        x.image(0);
        x.heard(10);
        x.felt(1);
        x.seen(1, 1, 1, 1, 1);
        x.drive(1);
        x.drive(9);
        Check.due("read", 1, Check.read(x, "road 3 4;"));
        for (int what = 0; what <= 5; what++) Check.due("read: count(" + what + ")", 0, x.count(what));
        for (int what = 0; what <= 2; what++) Check.due("read: now(" + what + ")", 0, x.now(what));
        Check.due("read: text stays", 9, x.count(6));
        Check.due("read: status stays", 1, x.status(0));
        Check.due("read: fraction stays", 7, x.part(0));
        Check.due("read: image stays", 1, x.from(0));
        Check.due("read: image's mud", 1, x.count(2));
    }
}
