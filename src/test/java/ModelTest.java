import java.util.Random;

/** Runs of calls by a seed, each answered by the class as by the model. */
public final class ModelTest {
    /** The digest is asked behind each call, so that an object gets 512 calls at most. */
    private static final int RUNS = 6000, CALLS = 250;
    private static final int[] WILD = {Integer.MIN_VALUE, -1000, -3, -2, -1, 7, 8, 9, 10, 11, 61, 128, 1000000,
        Integer.MAX_VALUE};
    private static final String[] PIECES = {"road ", "bend ", "mud ", "drive ", ";", ";", " ", "0", "1", "2 ", "3 ", "4 ",
        "10 ", "06 ", "000", "x", "#", "roadbend", "7", "9 "};

    private final Random random;
    private final LeftCrest x = new LeftCrest();
    private final Model y = new Model();

    private ModelTest(long seed) {
        random = new Random(seed);
    }

    public static void main(String[] args) {
        for (int run = 0; run < RUNS; run++) new ModelTest(run).run(run);
        Check.end();
    }

    private void run(int run) {
        int calls = 0;
        while (calls < CALLS) {
            int what = random.nextInt(40);
            if (what == 0 && calls < CALLS - 160) calls += text();
            else if (what == 1 && y.s.bends().size() < 8) calls += fill();
            else {
                call(run, random.nextInt(35));
                calls++;
            }
            Check.due("run " + run + ", call " + calls + ": digest()", y.digest(), x.digest());
        }
    }

    /** A number from a to z, now and then one that is not. */
    private int num(int a, int z) {
        return random.nextInt(25) == 0 ? WILD[random.nextInt(WILD.length)] : a + random.nextInt(z - a + 1);
    }

    private int aBend() {
        return num(0, Math.max(0, y.s.bends().size() - 1));
    }

    private int fill() {
        int n = 1 + random.nextInt(8);
        for (int i = 0; i < n; i++) {
            int a = num(1, 9), b = num(1, 6), c = num(0, 6), d = num(1, 9);
            Check.due("bend", y.bend(a, b, c, d), x.bend(a, b, c, d));
        }
        return n;
    }

    private int text() {
        StringBuilder told = new StringBuilder();
        if (random.nextInt(4) == 0) {
            int n = random.nextInt(20);
            for (int i = 0; i < n; i++) told.append(PIECES[random.nextInt(PIECES.length)]);
        } else {
            told.append("road ").append(random.nextInt(6)).append(' ').append(random.nextInt(10)).append(';');
            int n = random.nextInt(10);
            for (int i = 0; i < n; i++) told.append(item());
            while (random.nextInt(3) == 0) {
                int at = random.nextInt(told.length());
                if (random.nextBoolean()) told.setCharAt(at, "; 0379abendro#A".charAt(random.nextInt(15)));
                else told.insert(at, ' ');
            }
            if (random.nextInt(6) == 0) told.setLength(random.nextInt(told.length()));
        }
        Check.due("clear()", y.clear(), x.clear());
        for (int i = 0; i < told.length(); i++) Check.due("type", y.type(told.charAt(i)), x.type(told.charAt(i)));
        Check.due("read() of '" + told + "'", y.read(), x.read());
        return told.length() + 2;
    }

    private String item() {
        int sort = random.nextInt(8);
        if (sort == 0) return "mud " + random.nextInt(4) + ";";
        if (sort == 1) return "drive " + (1 + random.nextInt(3)) + ";";
        return "bend" + (1 + random.nextInt(9)) + " " + (1 + random.nextInt(6)) + " " + random.nextInt(7) + " "
                + (1 + random.nextInt(9)) + ";";
    }

    private void call(int run, int which) {
        if (which < 12) change(run, which);
        else ask(run, which);
    }

    private void due(int run, String call, long want, long got) {
        Check.due("run " + run + ": " + call, want, got);
    }

    private void change(int run, int which) {
        int a, b, c, d, e;
        switch (which) {
            case 0: a = num(0, 5); b = num(0, 9);
                if (random.nextInt(8) == 0) due(run, "road", y.road(a, b), x.road(a, b));
                break;
            case 1: a = num(1, 9); b = num(1, 6); c = num(0, 6); d = num(1, 9);
                due(run, "bend", y.bend(a, b, c, d), x.bend(a, b, c, d)); break;
            case 2: a = aBend(); b = num(0, 1); due(run, "mud", y.mud(a, b), x.mud(a, b)); break;
            case 3: a = num(0, 5); b = num(0, 9); due(run, "driver", y.driver(a, b), x.driver(a, b)); break;
            case 4: a = num(0, 127); due(run, "type", y.type(a), x.type(a)); break;
            case 5: a = num(1, 3); due(run, "drive", y.drive(a), x.drive(a)); break;
            case 6: case 7: a = aBend(); b = num(0, 6); due(run, "write", y.write(a, b), x.write(a, b)); break;
            case 8: due(run, "undo", y.undo(), x.undo()); break;
            case 9: a = num(1, 6); due(run, "felt", y.felt(a), x.felt(a)); break;
            case 10: a = num(0, 6); b = num(1, 6); c = num(0, 9); d = num(0, 1);
                e = random.nextInt(4) == 0 ? num(1, 7) : Model.pace(y.s.kind(), a, b, c, d == 1);
                due(run, "seen", y.seen(a, b, c, d, e), x.seen(a, b, c, d, e)); break;
            default: a = num(0, 1); due(run, "forget", y.forget(a), x.forget(a)); break;
        }
    }

    private void ask(int run, int which) {
        int a, b, c;
        switch (which) {
            case 12: a = aBend(); b = num(0, 5); due(run, "of", y.of(a, b), x.of(a, b)); break;
            case 13: a = num(0, 4); due(run, "now", y.now(a), x.now(a)); break;
            case 14: a = aBend(); b = num(-1, 6); c = num(0, 1); due(run, "pace", y.pace(a, b, c), x.pace(a, b, c)); break;
            case 15: due(run, "left", y.left(), x.left()); break;
            case 16: case 17: a = num(0, 8); b = num(0, 1); due(run, "mend", y.mend(a, b), x.mend(a, b)); break;
            case 18: case 19: a = num(0, 9); b = num(0, 1); due(run, "reads", y.reads(a, b), x.reads(a, b)); break;
            case 20: a = aBend(); due(run, "wrong", y.wrong(a), x.wrong(a)); break;
            case 21: due(run, "turned", y.turned(), x.turned()); break;
            case 22: due(run, "where", y.where(), x.where()); break;
            case 23: due(run, "next", y.next(), x.next()); break;
            case 24: due(run, "is", y.is(), x.is()); break;
            case 25: due(run, "look", y.look(), x.look()); break;
            case 26: a = aBend(); due(run, "writes", y.writes(a), x.writes(a)); break;
            case 27: a = num(0, 10); due(run, "heard", y.heard(a), x.heard(a)); break;
            case 28: a = num(0, 999999); b = num(0, 60); due(run, "rallies", y.rallies(a, b), x.rallies(a, b)); break;
            case 29: a = num(0, 1); due(run, "part", y.part(a), x.part(a)); break;
            case 30: a = num(0, 1); due(run, "image", y.image(a), x.image(a)); break;
            case 31: a = num(0, 1); due(run, "from", y.from(a), x.from(a)); break;
            case 32: a = num(0, 2); due(run, "status", y.status(a), x.status(a)); break;
            case 33: a = num(0, 6); due(run, "count", y.count(a), x.count(a)); break;
            default: due(run, "digest", y.digest(), x.digest()); break;
        }
    }
}
