/** Counts answers that are not as due; the end of a test tells them by its exit code. */
final class Check {
    private static int wrong = 0;
    private static int asked = 0;

    private Check() {
    }

    static void due(String call, long want, long got) {
        asked++;
        if (got == want) return;
        wrong++;
        if (wrong <= 40) System.out.println(call + " answered " + got + ", due is " + want);
    }

    static void holds(String what, boolean is) {
        due(what, 1, is ? 1 : 0);
    }

    static void end() {
        System.out.println(asked + " answers, " + wrong + " not as due");
        if (wrong != 0 || asked == 0) System.exit(1);
    }

    /** THE TEXT anew, read. */
    static int read(LeftCrest x, String text) {
        x.clear();
        for (int i = 0; i < text.length(); i++) x.type(text.charAt(i));
        return x.read();
    }

    /** A new object with a road told by a text. */
    static LeftCrest road(String text) {
        LeftCrest x = new LeftCrest();
        holds("read of " + text, read(x, text) > 0);
        return x;
    }
}
