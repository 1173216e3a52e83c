/** Promises 1 to 7: a new object, road, bend, mud, driver, type, clear. */
final class RoadEdges {
    private RoadEdges() {
    }

    static void run() {
        newObject();
        road();
        roadAnew();
        bendNumbers();
        bend();
        bendsFull();
        mud();
        mudNotAtFirst();
        driver();
        type();
        typeFull();
        clear();
    }

    private static void newObject() {
        Edge.says(1, "As told; no BENDS.");
        LeftCrest x = new LeftCrest();
        for (int what = 0; what <= 6; what++) Edge.due("count(" + what + ")", 0, x.count(what));
        Edge.row("STATUS", new long[3], Edge.status(x));
        Edge.due("undo", LeftCrest.NO, x.undo());
        Edge.due("from(0)", LeftCrest.NO, x.from(0));
        Edge.due("from(1)", LeftCrest.NO, x.from(1));
        Edge.says(0, "FOG (0 .. 9; 0 at first). THE DRIVER: a KIND (0 at first).");
        Edge.due("FOG", 0, x.now(4));
        Edge.due("KIND", 0, x.now(3));
        Edge.says(0, "THE BEND that comes next (0 at first), SECONDS, CRASHES (0 at first).");
        for (int what = 0; what <= 2; what++) Edge.due("now(" + what + ")", 0, x.now(what));
        Edge.says(0, "THE FRACTION is 0 by 1 at first");
        Edge.due("above", 0, x.part(0));
        Edge.due("below", 1, x.part(1));
    }

    private static void road() {
        Edge.says(2, "how many BENDS there were. BAD.");
        Edge.range(0, 5, States::full, (x, kind) -> x.road(kind, 0));
        Edge.range(0, 9, States::full, (x, fog) -> x.road(0, fog));
        Edge.bad(x -> x.road(6, 10));
        Edge.taken(0, new LeftCrest(), x -> x.road(0, 0));
        Edge.taken(8, States.full(), x -> x.road(5, 9));
        LeftCrest x = States.halfway();
        Edge.taken(3, x, y -> y.road(5, 9));
        Edge.row("KIND, FOG, most", new long[] {5, 9}, x.now(3), x.now(4));
        Edge.taken(0, x, y -> y.road(0, 0));
        Edge.row("KIND, FOG, least", new long[] {0, 0}, x.now(3), x.now(4));
    }

    private static void roadAnew() {
        Edge.says(2, "all else as at first (but for IMAGES, THE TEXT, THE FRACTION, STATUS)");
        LeftCrest x = States.full();
        x.drive(0);
        x.drive(8);
        x.felt(1);
        long[] status = Edge.status(x);
        long[] fraction = {x.part(0), x.part(1)};
        x.road(0, 0);
        for (int what = 0; what <= 5; what++) Edge.due("count(" + what + ")", 0, x.count(what));
        for (int what = 0; what <= 4; what++) Edge.due("now(" + what + ")", 0, x.now(what));
        Edge.due("THE TEXT", 150, x.count(6));
        Edge.row("THE FRACTION", fraction, x.part(0), x.part(1));
        Edge.row("STATUS", status, Edge.status(x));
        Edge.due("nothing to undo", LeftCrest.NO, x.undo());
        Edge.due("a bend that there was", LeftCrest.BAD, x.of(0, 0));
        for (int b = 0; b < 8; b++) Edge.due("places are free", b, x.bend(1, 1, 1, 1));
        for (int i = 1; i <= 3; i++) Edge.due("FELT anew", i, x.felt(1));
        for (int i = 1; i <= 6; i++) Edge.due("PACES anew", i, x.seen(1, 1, 1, 0, 1));
        Edge.due("image 0", 1, x.from(0));
        Edge.due("image 0: bends", 8, x.count(0));
        Edge.due("image 1", 1, x.from(1));
        Edge.due("THE TEXT is as it was", 5, x.read());
    }

    private static void bendNumbers() {
        Edge.says(0, "YARDS to it (1 .. 9, in tens)");
        for (int v = 1; v <= 9; v++) Edge.due("yards " + v, v, States.alike(1, v, 1, 0, 1).of(0, 0));
        Edge.range(1, 9, LeftCrest::new, (x, v) -> x.bend(v, 1, 0, 1));
        Edge.says(0, "TRUE (1 .. 6: how fast it can be gone)");
        for (int v = 1; v <= 6; v++) Edge.due("true " + v, v, States.alike(1, 1, v, 0, 1).of(0, 1));
        Edge.range(1, 6, LeftCrest::new, (x, v) -> x.bend(1, v, 0, 1));
        Edge.says(0, "a NOTE (1 .. 6; 0: none)");
        for (int v = 0; v <= 6; v++) {
            LeftCrest x = States.alike(1, 1, 1, v, 1);
            Edge.due("note " + v, v, x.of(0, 2));
            Edge.due("there is a note " + v, v == 0 ? 0 : 1, x.count(1));
        }
        Edge.range(0, 6, LeftCrest::new, (x, v) -> x.bend(1, 1, v, 1));
        Edge.says(0, "WORDS of it (1 .. 9)");
        for (int v = 1; v <= 9; v++) Edge.due("words " + v, v, States.alike(1, 1, 1, 0, v).of(0, 3));
        Edge.range(1, 9, LeftCrest::new, (x, v) -> x.bend(1, 1, 0, v));
    }

    private static void bend() {
        Edge.says(3, "A BEND: its number. BAD;");
        Edge.bad(x -> x.bend(0, 0, -1, 0));
        Edge.bad(x -> x.bend(10, 7, 7, 10));
        Edge.taken(0, new LeftCrest(), x -> x.bend(1, 1, 0, 1));
        Edge.taken(0, new LeftCrest(), x -> x.bend(9, 6, 6, 9));
        Edge.taken(3, States.halfway(), x -> x.bend(1, 1, 1, 1));
        LeftCrest x = States.drivenOut();
        Edge.taken(2, x, y -> y.bend(4, 3, 2, 1));
        Edge.due("THE BEND stays", 2, x.now(0));
        Edge.due("it may be driven", 4, x.drive(1));
    }

    private static void bendsFull() {
        Edge.says(0, "7, as they come");
        LeftCrest x = new LeftCrest();
        for (int b = 0; b <= 7; b++) Edge.taken(b, x, y -> y.bend(9, 6, 6, 9));
        Edge.due("all of them", 8, x.count(0));
        Edge.says(3, "FULL: 8.");
        Edge.refused(LeftCrest.FULL, States::full, y -> y.bend(1, 1, 0, 1));
        Edge.refused(LeftCrest.FULL, States::full, y -> y.bend(9, 6, 6, 9));
        Edge.taken(7, States.alike(7, 1, 1, 1, 1), y -> y.bend(1, 1, 1, 1));
        x.road(0, 0);
        Edge.taken(0, x, y -> y.bend(1, 1, 1, 1));
    }

    private static void mud() {
        Edge.says(4, "MUD on a BEND (1, 0): whether there was. BAD.");
        Edge.aBend((x, b) -> x.mud(b, 1));
        Edge.range(0, 1, States::halfway, (x, is) -> x.mud(0, is));
        for (int b = 0; b < 8; b += 7) {
            LeftCrest x = States.alike(8, 1, 6, 1, 1);
            int at = b;
            Edge.taken(0, x, y -> y.mud(at, 0));
            Edge.taken(0, x, y -> y.mud(at, 1));
            Edge.due("on one alone", 1, x.count(2));
            Edge.taken(1, x, y -> y.mud(at, 1));
            Edge.due("told twice it is on one", 1, x.count(2));
            Edge.taken(1, x, y -> y.mud(at, 0));
            Edge.taken(0, x, y -> y.mud(at, 0));
            Edge.due("on none", 0, x.count(2));
        }
        LeftCrest x = States.alike(1, 3, 4, 4, 1);
        x.drive(1);
        x.mud(0, 1);
        Edge.row("a bend that was driven", new long[] {1, 3, 0}, x.now(0), x.now(1), x.now(2));
    }

    private static void mudNotAtFirst() {
        Edge.says(0, "with MUD or not (not at first)");
        LeftCrest x = States.full();
        Edge.due("some have it", 3, x.count(2));
        x.road(0, 0);
        for (int b = 0; b < 8; b++) x.bend(1, 1, 1, 1);
        Edge.due("none of those that come in their places has it", 0, x.count(2));
        for (int b = 0; b < 8; b++) x.mud(b, 1);
        Edge.due("all have it", 8, x.count(2));
        x.clear();
        States.type(x, "road 0 0;bend 1 1 1 1;bend 1 1 1 1;");
        x.read();
        Edge.due("none that is read has it", 0, x.of(0, 4) + x.of(1, 4));
        x.bend(1, 1, 1, 1);
        Edge.due("none behind those has it", 0, x.count(2));
    }

    private static void driver() {
        Edge.says(5, "THE DRIVER's KIND, FOG: 1. BAD.");
        Edge.range(0, 5, States::full, (x, kind) -> x.driver(kind, 0));
        Edge.range(0, 9, States::full, (x, fog) -> x.driver(0, fog));
        Edge.bad(x -> x.driver(-1, -1));
        for (int kind = 0; kind <= 5; kind++) {
            for (int fog = 0; fog <= 9; fog++) {
                LeftCrest x = new LeftCrest();
                Edge.due("answer", 1, x.driver(kind, fog));
                Edge.row("KIND, FOG", new long[] {kind, fog}, x.now(3), x.now(4));
            }
        }
        LeftCrest x = States.full();
        long[] before = {x.count(0), x.count(1), x.count(2), x.count(3), x.count(4), x.now(0), x.now(1), x.now(2)};
        x.driver(0, 0);
        Edge.row("all else stays", before, x.count(0), x.count(1), x.count(2), x.count(3), x.count(4),
                x.now(0), x.now(1), x.now(2));
    }

    private static void type() {
        Edge.says(6, "A byte (0 .. 127) comes behind THE TEXT: how many it has. BAD;");
        Edge.range(0, 127, LeftCrest::new, (x, c) -> x.type(c));
        LeftCrest x = new LeftCrest();
        for (int c = 0; c <= 127; c++) Edge.due("byte " + c, c + 1, x.type(c));
        Edge.row("STATUS", new long[3], Edge.status(x));
        Edge.due("count(6)", 128, x.count(6));
    }

    private static void typeFull() {
        Edge.says(0, "a TEXT (150 bytes at most)");
        LeftCrest x = new LeftCrest();
        for (int i = 1; i <= 150; i++) Edge.due("byte " + i, i, x.type('a'));
        Edge.row("STATUS", new long[3], Edge.status(x));
        Edge.says(6, "BAD; FULL.");
        Edge.due("a byte more", LeftCrest.FULL, x.type('a'));
        Edge.due("it has 150 yet", 150, x.count(6));
        Edge.refused(LeftCrest.FULL, States::full, y -> y.type(0));
        Edge.refused(LeftCrest.FULL, States::full, y -> y.type(127));
        x.clear();
        Edge.taken(1, x, y -> y.type('a'));
    }

    private static void clear() {
        Edge.says(7, "THE TEXT is empty: how many it had.");
        Edge.taken(0, new LeftCrest(), LeftCrest::clear);
        LeftCrest x = States.full();
        long[] before = {x.count(0), x.count(1), x.count(2), x.count(3), x.count(4), x.count(5), x.part(0), x.part(1)};
        Edge.taken(150, x, LeftCrest::clear);
        Edge.due("none is left", 0, x.count(6));
        Edge.row("all else stays", before, x.count(0), x.count(1), x.count(2), x.count(3), x.count(4), x.count(5),
                x.part(0), x.part(1));
        Edge.taken(0, x, LeftCrest::clear);
        Edge.due("nothing to read", -10, x.read());
        x.type(' ');
        Edge.taken(1, x, LeftCrest::clear);
    }
}
