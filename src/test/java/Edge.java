import java.io.IOException;
import java.nio.file.Files;
import java.nio.file.Path;
import java.util.ArrayList;
import java.util.HashSet;
import java.util.List;
import java.util.Set;
import java.util.TreeSet;
import java.util.function.Supplier;
import java.util.function.ToLongFunction;
import java.util.regex.Matcher;
import java.util.regex.Pattern;

/** Sentences of the document that name a boundary case, each quoted ahead of its own tests. */
final class Edge {
    /** A call that takes a number. */
    interface Numbered {
        long on(LeftCrest x, int number);
    }

    private static final int PROMISES = 35;
    private static final String[] REASONS = {"BAD", "NO", "FULL"};
    private static final String[] DOC = sections();
    private static final Set<String> shown = new HashSet<>();
    private static final Set<Integer> quoted = new HashSet<>();
    private static int promise = 0;
    private static String sentence = "";
    private static int tests = 1;

    private Edge() {
    }

    /** At 0 what stands ahead of the first promise, at each promise's number its own text. */
    private static String[] sections() {
        String[] parts;
        try {
            parts = Files.readString(Path.of("../shared/DOC.md")).split("## Promise \\d+: |## Not promised");
        } catch (IOException e) {
            throw new IllegalStateException(e);
        }
        for (int i = 0; i < parts.length; i++) parts[i] = parts[i].replaceAll("\\s+", " ");
        return parts;
    }

    /** The tests that come next are of this sentence (of a promise; 0: of the terms). */
    static void says(int number, String quote) {
        Check.holds(label() + "has a test", tests > 0);
        promise = number;
        sentence = quote;
        tests = 0;
        quoted.add(number);
        Check.holds(label() + "stands in the document", DOC[number].contains(quote));
    }

    private static String label() {
        return (promise == 0 ? "terms" : "promise " + promise) + " '" + sentence + "': ";
    }

    static void due(String call, long want, long got) {
        tests++;
        Check.due(label() + call, want, got);
    }

    /** What calls answer, one behind the other. */
    static void row(String calls, long[] want, long... got) {
        due(calls + ": how many", want.length, got.length);
        for (int i = 0; i < want.length && i < got.length; i++) due(calls + " [" + i + "]", want[i], got[i]);
    }

    /** The call answers so, and STATUS stays as it was. */
    static void taken(long want, LeftCrest x, ToLongFunction<LeftCrest> call) {
        long[] before = status(x);
        due("answer", want, call.applyAsLong(x));
        row("STATUS stays", before, status(x));
    }

    static void none(LeftCrest x, ToLongFunction<LeftCrest> call) {
        shown.add(promise + " NONE");
        taken(LeftCrest.NONE, x, call);
    }

    /** Refused for this reason: answered by it, counted as it alone, and all else is as on an object not so called. */
    static void refused(int why, Supplier<LeftCrest> made, ToLongFunction<LeftCrest> call) {
        refused(why, why, made, call);
    }

    static void refused(int why, long answer, Supplier<LeftCrest> made, ToLongFunction<LeftCrest> call) {
        int reason = LeftCrest.BAD - why;
        LeftCrest x = made.get();
        long[] counted = status(x);
        counted[reason]++;
        due("answer", answer, call.applyAsLong(x));
        row("STATUS", counted, status(x));
        row("all else", everything(made.get()), everything(x));
        shown.add(promise + " " + REASONS[reason]);
    }

    /** Refused as BAD whatever went ahead, so ahead of NO and FULL, too. */
    static void bad(ToLongFunction<LeftCrest> call) {
        for (Supplier<LeftCrest> made : States.ALL) refused(LeftCrest.BAD, made, call);
    }

    /** The call changes nothing and is not refused. */
    static void changesNothing(ToLongFunction<LeftCrest> call) {
        for (Supplier<LeftCrest> made : States.ALL) {
            LeftCrest x = made.get();
            LeftCrest y = made.get();
            due("answers alike", call.applyAsLong(x), call.applyAsLong(x));
            row("STATUS stays", status(y), status(x));
            row("all stays", everything(y), everything(x));
        }
    }

    /** Least and most are taken by the object told; what is outside is BAD on every one. */
    static void range(int least, int most, Supplier<LeftCrest> made, Numbered call) {
        for (int number : new int[] {least, most}) {
            LeftCrest x = made.get();
            long[] before = status(x);
            call.on(x, number);
            row("STATUS stays at " + number, before, status(x));
        }
        for (int number : outside(least, most)) bad(x -> call.on(x, number));
    }

    /** A BEND that there is: as many as the states have. */
    static void aBend(Numbered call) {
        for (Supplier<LeftCrest> made : States.ALL) {
            int size = made.get().count(0);
            for (int number : outside(0, size - 1)) refused(LeftCrest.BAD, made, x -> call.on(x, number));
            for (int b = 0; b < size; b++) {
                LeftCrest x = made.get();
                long[] before = status(x);
                call.on(x, b);
                row("STATUS stays at " + b, before, status(x));
            }
        }
    }

    /** Just outside, far outside, and such as would be inside if bits above were cut off. */
    private static Set<Integer> outside(int least, int most) {
        Set<Integer> numbers = new TreeSet<>(List.of(least - 1, most + 1, Integer.MIN_VALUE, Integer.MAX_VALUE,
                least + 256, most - 256, least + 65536, most - 65536, least + Integer.MIN_VALUE, most + Integer.MIN_VALUE));
        numbers.removeIf(n -> n >= least && n <= most);
        return numbers;
    }

    static long[] status(LeftCrest x) {
        return new long[] {x.status(0), x.status(1), x.status(2)};
    }

    /** All that calls can tell, STATUS left out: what may be undone, images and THE TEXT are tried, last. */
    static long[] everything(LeftCrest x) {
        List<Long> all = new ArrayList<>();
        asked(x, all);
        undone(x, all);
        for (int i = 0; i < 2; i++) {
            all.add((long) x.from(i));
            asked(x, all);
            undone(x, all);
        }
        all.add((long) x.read());
        all.add(x.digest());
        return all.stream().mapToLong(Long::longValue).toArray();
    }

    private static void asked(LeftCrest x, List<Long> all) {
        all.add(x.digest());
        all.add(x.part(0));
        all.add(x.part(1));
        for (int what = 0; what <= 4; what++) all.add((long) x.now(what));
        for (int what = 0; what <= 6; what++) all.add((long) x.count(what));
        int[] told = {x.left(), x.mend(8, 1), x.reads(1, 0), x.turned(), x.where(), x.next(), x.is(), x.look()};
        for (int answer : told) all.add((long) answer);
    }

    private static void undone(LeftCrest x, List<Long> all) {
        for (int i = 0; i < 9; i++) {
            all.add((long) x.undo());
            all.add(x.digest());
        }
    }

    /** Each promise was quoted; each BAD, NO, FULL, NONE that it tells was shown by a test of that promise. */
    static void end() {
        says(0, "each answer told so below is such a one");
        due("the document's parts", PROMISES + 2, DOC.length);
        Pattern reason = Pattern.compile("\\b(BAD|NO|FULL|NONE(?=\\.))\\b(?! \\(\\d)");
        for (int number = 1; number <= PROMISES; number++) {
            due("promise " + number + " is quoted", 1, quoted.contains(number) ? 1 : 0);
            Matcher m = reason.matcher(DOC[number]);
            while (m.find()) {
                String told = number + " " + m.group();
                due("promise " + told, 1, shown.contains(told) ? 1 : 0);
            }
        }
    }
}
