/** A rally road of bends, the notes read of it and the driver who goes by them, as ../shared/DOC.md promises. */
public final class LeftCrest {
    public static final int NONE = -1, BAD = -2, NO = -3, FULL = -4;

    private static final int MOST_BENDS = 8, MOST_FELT = 3, MOST_SEEN = 6, MOST_UNDO = 8, MOST_BYTES = 150;
    private static final int MOST_YARDS = 9, MOST_WORDS = 9, MOST_TRUE = 6, MOST_NOTE = 6, MOST_PACE = 7;
    private static final int MOST_FOG = 9, MOST_MEND = 8, MOST_BREATH = 9, MOST_BYTE = 127;
    private static final int MOST_SEED = 999999, MOST_RALLIES = 60, ODDS = 10;
    private static final int BAD_WRONG = -1000, BAD_STATUS = -1, FAULT_AT_0 = -10;

    private final Stage stage = new Stage();
    private final Stage draft = new Stage();
    private final Stage[] images = {new Stage(), new Stage()};
    private final boolean[] kept = new boolean[2];
    private final Plans plans = new Plans();
    private final Text text = new Text();
    private final int[] refused = new int[3];
    private long above = 0;
    private long below = 1;

    public LeftCrest() {
    }

    // ---- a road

    public int road(int kind, int fog) {
        if (!isDriver(kind, fog)) return refuse(BAD);
        int before = stage.bends.size;
        stage.reset(kind, fog);
        return before;
    }

    public int bend(int yards, int holds, int note, int words) {
        boolean told = within(yards, 1, MOST_YARDS) && within(holds, 1, MOST_TRUE)
                && within(note, 0, MOST_NOTE) && within(words, 1, MOST_WORDS);
        if (!told) return refuse(BAD);
        if (stage.bends.isFull()) return refuse(FULL);
        stage.past.size = 0;
        return stage.bends.add(yards, holds, note, words);
    }

    public int mud(int b, int is) {
        if (!stage.bends.has(b) || !within(is, 0, 1)) return refuse(BAD);
        int before = stage.bends.mud[b];
        stage.bends.mud[b] = is;
        stage.past.size = 0;
        return before;
    }

    public int driver(int kind, int fog) {
        if (!isDriver(kind, fog)) return refuse(BAD);
        stage.kind = kind;
        stage.fog = fog;
        stage.past.size = 0;
        return 1;
    }

    public int type(int c) {
        if (!within(c, 0, MOST_BYTE)) return refuse(BAD);
        if (text.isFull()) return refuse(FULL);
        return text.add(c);
    }

    public int clear() {
        int before = text.size;
        text.size = 0;
        return before;
    }

    public int read() {
        int items = text.tell(draft);
        if (items > 0) stage.take(draft);
        return items;
    }

    // ---- bends

    public int drive(int n) {
        if (!within(n, 1, MOST_BENDS)) return refuse(BAD);
        if (n > stage.bendsLeft()) return refuse(NO);
        stage.past.keep(stage);
        return stage.goOn(n);
    }

    public int write(int b, int note) {
        if (!stage.bends.has(b) || !within(note, 0, MOST_NOTE)) return refuse(BAD);
        stage.past.keep(stage);
        int before = stage.bends.notes[b];
        stage.bends.notes[b] = note;
        return before;
    }

    public int undo() {
        if (stage.past.size == 0) return refuse(NO);
        stage.past.giveBack(stage);
        return stage.here;
    }

    public int of(int b, int what) {
        if (!stage.bends.has(b) || !within(what, 0, 5)) return refuse(BAD);
        return stage.bends.tell(b, what);
    }

    public int now(int what) {
        if (!within(what, 0, 4)) return refuse(BAD);
        return stage.tell(what);
    }

    // ---- what it costs

    public int pace(int b, int note, int what) {
        if (!stage.bends.has(b) || !within(note, NONE, MOST_NOTE) || !within(what, 0, 1)) return refuse(BAD);
        int heard = note == NONE ? stage.bends.notes[b] : note;
        return what == 0 ? stage.paceAt(b, heard) : stage.costAt(b, heard);
    }

    public int left() {
        return stage.secondsFrom(stage.here);
    }

    public int mend(int n, int what) {
        if (!within(n, 0, MOST_MEND) || !within(what, 0, 1)) return refuse(BAD);
        int mended = plans.bestMended(stage, n);
        return what == 0 ? plans.savedBy(stage, mended) : mended;
    }

    public int reads(int w, int what) {
        if (!within(w, 0, MOST_BREATH) || !within(what, 0, 1)) return refuse(BAD);
        int said = plans.bestSaid(stage, w);
        return what == 0 ? said : plans.costSaying(stage, said);
    }

    public int wrong(int b) {
        if (!stage.bends.has(b)) {
            refuse(BAD);
            return BAD_WRONG;
        }
        return stage.costNoted(b) - stage.costAt(b, 0);
    }

    public int turned() {
        return plans.likeliestTurned(stage);
    }

    // ---- where one is

    public int felt(int holds) {
        if (!within(holds, 1, MOST_TRUE)) return refuse(BAD);
        if (stage.felt.isFull()) return refuse(FULL);
        return stage.felt.add(holds);
    }

    public int where() {
        return stage.felt.places(stage.bends);
    }

    public int next() {
        return stage.felt.waysOn(stage.bends);
    }

    public int seen(int n, int t, int f, int mud, int p) {
        boolean told = within(n, 0, MOST_NOTE) && within(t, 1, MOST_TRUE) && within(f, 0, MOST_FOG)
                && within(mud, 0, 1) && within(p, 1, MOST_PACE);
        if (!told) return refuse(BAD);
        if (stage.paces.isFull()) return refuse(FULL);
        return stage.paces.add(n, t, f, mud, p);
    }

    public int forget(int what) {
        if (!within(what, 0, 1)) return refuse(BAD);
        int before = what == 0 ? stage.felt.size : stage.paces.size;
        if (what == 0) stage.felt.size = 0;
        else stage.paces.size = 0;
        return before;
    }

    public int is() {
        return stage.paces.kinds();
    }

    public int look() {
        return plans.bestLook(stage, stage.paces.kinds());
    }

    public int writes(int b) {
        if (!stage.bends.has(b)) return refuse(BAD);
        return plans.pairsAtRest(stage, b);
    }

    public int heard(int c) {
        if (!within(c, 0, ODDS)) return refuse(BAD);
        setFraction(plans.costUnheard(stage, c));
        return 1;
    }

    public int rallies(int seed, int n) {
        if (!within(seed, 0, MOST_SEED) || !within(n, 0, MOST_RALLIES)) return refuse(BAD);
        return plans.secondsOfRallies(stage.bends, seed, n);
    }

    // ---- what there is

    public long part(int what) {
        if (!within(what, 0, 1)) return refuse(BAD);
        return what == 0 ? above : below;
    }

    public int image(int i) {
        if (!within(i, 0, 1)) return refuse(BAD);
        images[i].take(stage);
        kept[i] = true;
        return 1;
    }

    public int from(int i) {
        if (!within(i, 0, 1)) return refuse(BAD);
        if (!kept[i]) return refuse(NO);
        stage.take(images[i]);
        return 1;
    }

    public int status(int what) {
        if (!within(what, 0, 2)) {
            refuse(BAD);
            return BAD_STATUS;
        }
        return refused[what];
    }

    public int count(int what) {
        if (!within(what, 0, 6)) return refuse(BAD);
        return howMany(what);
    }

    public long digest() {
        long h = 1361;
        for (int what = 0; what <= 6; what++) h = 31 * h + howMany(what);
        for (int what = 0; what <= 4; what++) h = 31 * h + stage.tell(what);
        h = stage.bends.digestOn(h);
        h = stage.felt.digestOn(h);
        h = stage.paces.digestOn(h);
        h = 31 * h + above;
        return 31 * h + below;
    }

    private int howMany(int what) {
        switch (what) {
            case 0: return stage.bends.size;
            case 1: return stage.bends.noted();
            case 2: return stage.bends.withMud();
            case 3: return stage.felt.size;
            case 4: return stage.paces.size;
            case 5: return stage.past.size;
            default: return text.size;
        }
    }

    private int refuse(int why) {
        if (why == BAD) refused[0]++;
        else if (why == NO) refused[1]++;
        else refused[2]++;
        return why;
    }

    /** THE FRACTION is only ever told in tenths, so a divisor of ten brings it to lowest terms. */
    private void setFraction(int tenths) {
        for (int d = ODDS; d >= 1; d--) {
            if (ODDS % d == 0 && tenths % d == 0) {
                above = tenths / d;
                below = ODDS / d;
                return;
            }
        }
    }

    private static boolean within(int value, int least, int most) {
        return value >= least && value <= most;
    }

    private static boolean isDriver(int kind, int fog) {
        return within(kind, 0, Kinds.LAST) && within(fog, 0, MOST_FOG);
    }

    private static boolean hasBit(int bits, int b) {
        return (bits >> b & 1) == 1;
    }

    /** At which PACE each KIND goes, and what a PACE costs. */
    private static final class Kinds {
        static final int SIGHT = 1, BRAVE = 2, CAREFUL = 3, EAR = 4, MUDDY = 5, LAST = 5;
        static final int CRASH = 60, SLIDE = 7, SLOW = 3;

        static int paceOf(int kind, int note, int holds, int fog, int mud) {
            int plain = note == 0 ? 2 : note;
            int brave = plain < MOST_PACE ? plain + 1 : MOST_PACE;
            int careful = plain > 1 ? plain - 1 : 1;
            int slowed = brave > 3 ? brave - 2 : 1;
            switch (kind) {
                case SIGHT: return fog <= 3 ? holds : plain;
                case BRAVE: return brave;
                case CAREFUL: return careful;
                case EAR: return fog < 7 ? careful + 1 : careful;
                case MUDDY: return mud == 1 ? slowed : brave;
                default: return plain;
            }
        }

        static int costOf(int pace, int holds) {
            if (pace <= holds) return SLOW * (holds - pace);
            return pace == holds + 1 ? SLIDE : CRASH;
        }
    }

    /** BENDS, as they came; has(b) is asked ahead of every b that a caller tells. */
    private static final class Bends {
        final int[] yards = new int[MOST_BENDS];
        final int[] truth = new int[MOST_BENDS];
        final int[] notes = new int[MOST_BENDS];
        final int[] words = new int[MOST_BENDS];
        final int[] mud = new int[MOST_BENDS];
        int size = 0;

        boolean isFull() {
            return size >= MOST_BENDS;
        }

        boolean has(int b) {
            return b >= 0 && b < size;
        }

        int add(int far, int fast, int note, int said) {
            if (isFull()) return FULL;
            yards[size] = far;
            truth[size] = fast;
            notes[size] = note;
            words[size] = said;
            mud[size] = 0;
            size++;
            return size - 1;
        }

        int holds(int b) {
            return truth[b] > 1 ? truth[b] - mud[b] : 1;
        }

        int tell(int b, int what) {
            switch (what) {
                case 0: return yards[b];
                case 1: return truth[b];
                case 2: return notes[b];
                case 3: return words[b];
                case 4: return mud[b];
                default: return holds(b);
            }
        }

        int noted() {
            int sum = 0;
            for (int b = 0; b < size; b++) {
                if (notes[b] != 0) sum++;
            }
            return sum;
        }

        int withMud() {
            int sum = 0;
            for (int b = 0; b < size; b++) sum += mud[b];
            return sum;
        }

        void take(Bends other) {
            System.arraycopy(other.yards, 0, yards, 0, MOST_BENDS);
            System.arraycopy(other.truth, 0, truth, 0, MOST_BENDS);
            System.arraycopy(other.notes, 0, notes, 0, MOST_BENDS);
            System.arraycopy(other.words, 0, words, 0, MOST_BENDS);
            System.arraycopy(other.mud, 0, mud, 0, MOST_BENDS);
            size = other.size;
        }

        long digestOn(long before) {
            long h = before;
            for (int b = 0; b < size; b++) {
                for (int what = 0; what <= 4; what++) h = 31 * h + tell(b, what);
            }
            return h;
        }
    }

    /** What may be undone, the last one last; BENDS can't change under it, so NOTES alone of them are kept. */
    private static final class Past {
        static final int WIDTH = 3 + MOST_BENDS;
        final int[] rows = new int[MOST_UNDO * WIDTH];
        int size = 0;

        void keep(Stage stage) {
            if (size >= MOST_UNDO) {
                System.arraycopy(rows, WIDTH, rows, 0, (MOST_UNDO - 1) * WIDTH);
                size = MOST_UNDO - 1;
            }
            int at = size * WIDTH;
            rows[at] = stage.here;
            rows[at + 1] = stage.seconds;
            rows[at + 2] = stage.crashes;
            System.arraycopy(stage.bends.notes, 0, rows, at + 3, MOST_BENDS);
            size++;
        }

        void giveBack(Stage stage) {
            if (size < 1) return;
            size--;
            int at = size * WIDTH;
            stage.here = rows[at];
            stage.seconds = rows[at + 1];
            stage.crashes = rows[at + 2];
            System.arraycopy(rows, at + 3, stage.bends.notes, 0, MOST_BENDS);
        }

        void take(Past other) {
            System.arraycopy(other.rows, 0, rows, 0, MOST_UNDO * WIDTH);
            size = other.size;
        }
    }

    /** How the last BENDS were FELT to hold. */
    private static final class Felt {
        final int[] holds = new int[MOST_FELT];
        int size = 0;

        boolean isFull() {
            return size >= MOST_FELT;
        }

        int add(int held) {
            if (isFull()) return FULL;
            holds[size] = held;
            size++;
            return size;
        }

        int places(Bends bends) {
            int bits = 0;
            for (int b = 0; b < bends.size; b++) {
                if (mayEndAt(bends, b)) bits |= 1 << b;
            }
            return bits;
        }

        boolean mayEndAt(Bends bends, int last) {
            int first = last + 1 - size;
            if (size > 0 && first < 0) return false;
            for (int i = 0; i < size; i++) {
                if (bends.holds(first + i) != holds[i]) return false;
            }
            return true;
        }

        int waysOn(Bends bends) {
            int ways = 0;
            for (int b = 0; b + 1 < bends.size; b++) {
                if (mayEndAt(bends, b)) ways |= 1 << bends.holds(b + 1);
            }
            return Integer.bitCount(ways);
        }

        void take(Felt other) {
            System.arraycopy(other.holds, 0, holds, 0, MOST_FELT);
            size = other.size;
        }

        long digestOn(long before) {
            long h = before;
            for (int i = 0; i < size; i++) h = 31 * h + holds[i];
            return h;
        }
    }

    /** PACES that were seen, each a row of NOTE, HOLDS, FOG, MUD, PACE. */
    private static final class Paces {
        static final int WIDTH = 5;
        final int[] rows = new int[MOST_SEEN * WIDTH];
        int size = 0;

        boolean isFull() {
            return size >= MOST_SEEN;
        }

        int add(int note, int holds, int fog, int mud, int pace) {
            if (isFull()) return FULL;
            int at = size * WIDTH;
            rows[at] = note;
            rows[at + 1] = holds;
            rows[at + 2] = fog;
            rows[at + 3] = mud;
            rows[at + 4] = pace;
            size++;
            return size;
        }

        int kinds() {
            int bits = 0;
            for (int kind = 0; kind <= Kinds.LAST; kind++) {
                if (fits(kind)) bits |= 1 << kind;
            }
            return bits;
        }

        boolean fits(int kind) {
            for (int i = 0; i < size; i++) {
                int at = i * WIDTH;
                int due = Kinds.paceOf(kind, rows[at], rows[at + 1], rows[at + 2], rows[at + 3]);
                if (due != rows[at + 4]) return false;
            }
            return true;
        }

        void take(Paces other) {
            System.arraycopy(other.rows, 0, rows, 0, MOST_SEEN * WIDTH);
            size = other.size;
        }

        long digestOn(long before) {
            long h = before;
            for (int i = 0; i < size * WIDTH; i++) h = 31 * h + rows[i];
            return h;
        }
    }

    /** All that an IMAGE keeps. */
    private static final class Stage {
        final Bends bends = new Bends();
        final Felt felt = new Felt();
        final Paces paces = new Paces();
        final Past past = new Past();
        int kind = 0;
        int fog = 0;
        int here = 0;
        int seconds = 0;
        int crashes = 0;

        void reset(int newKind, int newFog) {
            bends.size = 0;
            felt.size = 0;
            paces.size = 0;
            past.size = 0;
            kind = newKind;
            fog = newFog;
            here = 0;
            seconds = 0;
            crashes = 0;
        }

        void take(Stage other) {
            bends.take(other.bends);
            felt.take(other.felt);
            paces.take(other.paces);
            past.take(other.past);
            kind = other.kind;
            fog = other.fog;
            here = other.here;
            seconds = other.seconds;
            crashes = other.crashes;
        }

        int tell(int what) {
            switch (what) {
                case 0: return here;
                case 1: return seconds;
                case 2: return crashes;
                case 3: return kind;
                default: return fog;
            }
        }

        int bendsLeft() {
            return bends.size - here;
        }

        int paceAt(int b, int note) {
            return Kinds.paceOf(kind, note, bends.holds(b), fog, bends.mud[b]);
        }

        int costAt(int b, int note) {
            int holds = bends.holds(b);
            return Kinds.costOf(Kinds.paceOf(kind, note, holds, fog, bends.mud[b]), holds);
        }

        int costNoted(int b) {
            return costAt(b, bends.notes[b]);
        }

        int secondsFrom(int first) {
            int sum = 0;
            for (int b = first; b < bends.size; b++) sum += bends.yards[b] + costNoted(b);
            return sum;
        }

        /** Callers ask bendsLeft() first; the second bound only keeps the rows safe. */
        int goOn(int n) {
            int sum = 0;
            for (int i = 0; i < n && here < bends.size; i++) {
                int cost = costAt(here, bends.notes[here]);
                if (cost == Kinds.CRASH) crashes++;
                sum += bends.yards[here] + cost;
                here++;
            }
            seconds += sum;
            return sum;
        }
    }

    /** What would be best, or likely, on a stage that stays as it is; its rows are only made once. */
    private static final class Plans {
        final int[] gains = new int[MOST_BENDS];
        final int[] alike = new int[MOST_PACE + 1];

        /** NOTES are mended apart, so taking the greatest saving, the first of like ones, each time is best. */
        int bestMended(Stage stage, int n) {
            int size = stage.bends.size;
            for (int b = stage.here; b < size; b++) gains[b] = savedAt(stage, b);
            int mended = 0;
            for (int i = 0; i < n; i++) {
                int best = NONE;
                int most = 0;
                for (int b = stage.here; b < size; b++) {
                    if (!hasBit(mended, b) && gains[b] > most) {
                        best = b;
                        most = gains[b];
                    }
                }
                if (best == NONE) break;
                mended |= 1 << best;
            }
            return mended;
        }

        int savedBy(Stage stage, int mended) {
            int sum = 0;
            for (int b = stage.here; b < stage.bends.size; b++) {
                if (hasBit(mended, b)) sum += savedAt(stage, b);
            }
            return sum;
        }

        int savedAt(Stage stage, int b) {
            int least = Kinds.CRASH;
            for (int note = 0; note <= MOST_NOTE; note++) {
                int cost = stage.costAt(b, note);
                if (cost < least) least = cost;
            }
            return stage.costNoted(b) - least;
        }

        /** Sets are tried from the least on, so that the first of like ones stays. */
        int bestSaid(Stage stage, int w) {
            int sayable = 0;
            for (int b = stage.here; b < stage.bends.size; b++) {
                gains[b] = stage.costAt(b, 0) - stage.costNoted(b);
                if (stage.bends.notes[b] != 0) sayable |= 1 << b;
            }
            int best = 0;
            int most = 0;
            for (int said = 1; said <= sayable; said++) {
                if ((said & ~sayable) != 0) continue;
                int gain = gainSaying(stage, said);
                if (gain > most && hasBreath(stage, said, w)) {
                    best = said;
                    most = gain;
                }
            }
            return best;
        }

        int gainSaying(Stage stage, int said) {
            int sum = 0;
            for (int b = stage.here; b < stage.bends.size; b++) {
                if (hasBit(said, b)) sum += gains[b];
            }
            return sum;
        }

        boolean hasBreath(Stage stage, int said, int w) {
            int yards = 0;
            int words = 0;
            for (int b = stage.here; b < stage.bends.size; b++) {
                yards += stage.bends.yards[b];
                if (!hasBit(said, b)) continue;
                words += stage.bends.words[b];
                if (words > w * yards) return false;
            }
            return true;
        }

        int costSaying(Stage stage, int said) {
            int sum = 0;
            for (int b = stage.here; b < stage.bends.size; b++) {
                sum += hasBit(said, b) ? stage.costNoted(b) : stage.costAt(b, 0);
            }
            return sum;
        }

        int likeliestTurned(Stage stage) {
            int[] notes = stage.bends.notes;
            int best = NONE;
            int most = 0;
            for (int b = 0; b + 1 < stage.bends.size; b++) {
                int asNoted = stage.costNoted(b) + stage.costNoted(b + 1);
                int changed = stage.costAt(b, notes[b + 1]) + stage.costAt(b + 1, notes[b]);
                if (asNoted - changed > most) {
                    best = b;
                    most = asNoted - changed;
                }
            }
            return best;
        }

        int bestLook(Stage stage, int kinds) {
            if (kinds == 0) return NONE;
            int best = NONE;
            int fewest = Kinds.LAST + 2;
            for (int fog = 0; fog <= MOST_FOG; fog++) {
                for (int b = 0; b < stage.bends.size; b++) {
                    int most = mostAlike(stage.bends, b, fog, kinds);
                    if (most < fewest) {
                        best = 10 * fog + b;
                        fewest = most;
                    }
                }
            }
            return best;
        }

        int mostAlike(Bends bends, int b, int fog, int kinds) {
            for (int pace = 0; pace <= MOST_PACE; pace++) alike[pace] = 0;
            int most = 0;
            for (int kind = 0; kind <= Kinds.LAST; kind++) {
                if (!hasBit(kinds, kind)) continue;
                int pace = Kinds.paceOf(kind, bends.notes[b], bends.holds(b), fog, bends.mud[b]);
                if (!within(pace, 1, MOST_PACE)) continue;
                alike[pace]++;
                if (alike[pace] > most) most = alike[pace];
            }
            return most;
        }

        /** A pair's number has 1 in it, if she writes less, and 2, if he goes 1 PACE more. */
        int pairsAtRest(Stage stage, int b) {
            int bits = 0;
            for (int pair = 0; pair < 4; pair++) {
                int less = pair & 1;
                int more = pair >> 1;
                boolean sheStays = toHer(stage, b, less, more) >= toHer(stage, b, 1 - less, more);
                boolean heStays = toHim(stage, b, less, more) >= toHim(stage, b, less, 1 - more);
                if (sheStays && heStays) bits |= 1 << pair;
            }
            return bits;
        }

        int toHer(Stage stage, int b, int less, int more) {
            return -costOfPair(stage, b, less, more) - less;
        }

        int toHim(Stage stage, int b, int less, int more) {
            return -costOfPair(stage, b, less, more) + 2 * more;
        }

        int costOfPair(Stage stage, int b, int less, int more) {
            int note = Math.max(0, stage.bends.notes[b] - less);
            int pace = Math.min(MOST_PACE, stage.paceAt(b, note) + more);
            return Kinds.costOf(pace, stage.bends.holds(b));
        }

        /** In tenths, so that the mean stays exact. */
        int costUnheard(Stage stage, int c) {
            int tenths = 0;
            for (int b = stage.here; b < stage.bends.size; b++) {
                tenths += (ODDS - c) * stage.costNoted(b) + c * stage.costAt(b, 0);
            }
            return tenths;
        }

        int secondsOfRallies(Bends bends, int seed, int n) {
            long x = seed;
            int sum = 0;
            for (int i = 0; i < n; i++) {
                x = (x * 1103515245L + 12345L) % 2147483648L;
                sum += secondsOfAll(bends, (int) (x / 65536 % 6), (int) (x / 1048576 % 10));
            }
            return sum;
        }

        int secondsOfAll(Bends bends, int kind, int fog) {
            int sum = 0;
            for (int b = 0; b < bends.size; b++) {
                int holds = bends.holds(b);
                int pace = Kinds.paceOf(kind, bends.notes[b], holds, fog, bends.mud[b]);
                sum += bends.yards[b] + Kinds.costOf(pace, holds);
            }
            return sum;
        }
    }

    /** THE TEXT, and how THE ROAD is told by it: one TOKEN is looked at, a fault is where that begins. */
    private static final class Text {
        static final int END = 0, WORD = 1, NUMBER = 2, SEMICOLON = 3, NOTHING = 4;
        final int[] bytes = new int[MOST_BYTES];
        int size = 0;
        int sort = END;
        int start = 0;
        int behind = 0;

        boolean isFull() {
            return size >= MOST_BYTES;
        }

        int add(int c) {
            if (isFull()) return FULL;
            bytes[size] = c;
            size++;
            return size;
        }

        /** How many ITEMS were told to the draft, or where they can't be (-10 less that). */
        int tell(Stage draft) {
            behind = 0;
            step();
            if (!roadTold(draft)) return FAULT_AT_0 - start;
            int items = 1;
            for (int i = 0; i < MOST_BYTES && sort != END; i++) {
                if (!itemTold(draft)) return FAULT_AT_0 - start;
                items++;
            }
            return items;
        }

        boolean roadTold(Stage draft) {
            if (!isWord("road")) return false;
            step();
            int kind = number(0, Kinds.LAST);
            if (kind == NONE) return false;
            int fog = number(0, MOST_FOG);
            if (fog == NONE) return false;
            draft.reset(kind, fog);
            return itemEnded();
        }

        boolean itemTold(Stage draft) {
            if (isWord("bend")) return bendTold(draft);
            if (isWord("mud")) return mudTold(draft);
            if (isWord("drive")) return driveTold(draft);
            return false;
        }

        boolean bendTold(Stage draft) {
            if (draft.bends.isFull()) return false;
            step();
            int yards = number(1, MOST_YARDS);
            if (yards == NONE) return false;
            int truth = number(1, MOST_TRUE);
            if (truth == NONE) return false;
            int note = number(0, MOST_NOTE);
            if (note == NONE) return false;
            int words = number(1, MOST_WORDS);
            if (words == NONE) return false;
            draft.bends.add(yards, truth, note, words);
            return itemEnded();
        }

        boolean mudTold(Stage draft) {
            step();
            int b = number(0, draft.bends.size - 1);
            if (!draft.bends.has(b)) return false;
            draft.bends.mud[b] = 1;
            return itemEnded();
        }

        boolean driveTold(Stage draft) {
            step();
            int n = number(1, draft.bendsLeft());
            if (n == NONE) return false;
            draft.goOn(n);
            return itemEnded();
        }

        boolean itemEnded() {
            if (sort != SEMICOLON) return false;
            step();
            return true;
        }

        /** A number that is not as told stays the TOKEN looked at, so that the fault is there. */
        int number(int least, int most) {
            if (sort != NUMBER) return NONE;
            int value = 0;
            for (int i = start; i < behind; i++) value = 10 * value + bytes[i] - '0';
            if (!within(value, least, most)) return NONE;
            step();
            return value;
        }

        boolean isWord(String word) {
            if (sort != WORD || behind - start != word.length()) return false;
            for (int i = 0; i < word.length(); i++) {
                if (bytes[start + i] != word.charAt(i)) return false;
            }
            return true;
        }

        void step() {
            start = runEnd(behind, ' ', ' ');
            behind = start + 1;
            if (start >= size) {
                sort = END;
                behind = start;
            } else if (within(bytes[start], 'a', 'z')) {
                sort = WORD;
                behind = runEnd(start, 'a', 'z');
            } else if (within(bytes[start], '0', '9')) {
                behind = runEnd(start, '0', '9');
                sort = behind - start <= 2 ? NUMBER : NOTHING;
            } else {
                sort = bytes[start] == ';' ? SEMICOLON : NOTHING;
            }
        }

        int runEnd(int first, int least, int most) {
            for (int i = first; i < size; i++) {
                if (bytes[i] < least || bytes[i] > most) return i;
            }
            return size;
        }
    }
}
