import java.util.function.Supplier;

/** Promise 8, and what the terms say of THE TEXT. */
final class TextEdges {
    private static final String EIGHT = "road 1 1;bend1 1 1 1;bend2 2 2 2;bend3 3 3 3;bend4 4 4 4;"
            + "bend5 5 5 5;bend6 6 6 6;bend7 6 6 7;bend8 6 6 8;";

    private TextEdges() {
    }

    static void run() {
        items();
        allStays();
        numbersAtTheEdge();
        endsTooEarly();
        wordThatIsNone();
        wordsAndFigures();
        roadAgain();
        aheadOfRoad();
        ninthBend();
        threeFigures();
        numberNotAsTold();
        bendNotThere();
        moreThanAreLeft();
        byteThatBeginsNone();
        otherTokens();
        blanks();
        fullText();
        takesThePlace();
    }

    private static LeftCrest told(String text) {
        LeftCrest x = States.halfway();
        x.clear();
        States.type(x, text);
        return x;
    }

    /** So many items are read. */
    private static LeftCrest reads(int items, String text) {
        LeftCrest x = told(text);
        Edge.taken(items, x, LeftCrest::read);
        Edge.due("THE TEXT stays: '" + text + "'", text.length(), x.count(6));
        return x;
    }

    /** The fault is told, and all is as on an object that did not read. */
    private static void fault(int place, String text) {
        LeftCrest x = told(text);
        Edge.taken(-10 - place, x, LeftCrest::read);
        Edge.row("all stays: '" + text + "'", Edge.everything(told(text)), Edge.everything(x));
    }

    private static void items() {
        Edge.says(8, "THE ROAD is read: how many ITEMS.");
        LeftCrest one = reads(1, "road 1 9;");
        Edge.row("one item: BENDS, KIND, FOG", new long[] {0, 1, 9}, one.count(0), one.now(3), one.now(4));
        Edge.due("two items: BENDS", 1, reads(2, "road 0 0;bend 1 1 1 1;").count(0));
        reads(9, EIGHT);
        reads(10, EIGHT + "drive 8;");
        Edge.due("of as many as may be", 27, reads(27, "road 0 0;bend 1 1 1 1;" + "mud0;".repeat(25)).read());
    }

    private static void allStays() {
        Edge.says(8, "-10 less the FAULT: all stays.");
        String[] texts = {"", "road 0 0;bend 1 1 1 1;mud 0;drive 1", "road 0 0;bend 1 1 1 1;drive 1;#"};
        int[] due = {-10, -10 - 35, -10 - 30};
        for (Supplier<LeftCrest> made : States.ALL) {
            for (int i = 0; i < texts.length; i++) {
                LeftCrest x = made.get();
                LeftCrest y = made.get();
                x.clear();
                y.clear();
                States.type(x, texts[i]);
                States.type(y, texts[i]);
                Edge.taken(due[i], x, LeftCrest::read);
                Edge.row("all stays", Edge.everything(y), Edge.everything(x));
            }
        }
    }

    private static void numbersAtTheEdge() {
        Edge.says(0, "road KIND FOG (once, first of all); bend YARDS TRUE NOTE WORDS; mud b; "
                + "drive n (1 .. 8; BENDS that there are yet)");
        LeftCrest least = reads(2, "road 0 0;bend 1 1 0 1;");
        Edge.row("least", new long[] {0, 0, 1, 1, 0, 1}, least.now(3), least.now(4), least.of(0, 0), least.of(0, 1),
                least.of(0, 2), least.of(0, 3));
        LeftCrest most = reads(2, "road 5 9;bend 9 6 6 9;");
        Edge.row("most", new long[] {5, 9, 9, 6, 6, 9}, most.now(3), most.now(4), most.of(0, 0), most.of(0, 1),
                most.of(0, 2), most.of(0, 3));
        LeftCrest first = reads(10, EIGHT + "mud 0;");
        Edge.row("mud on the first", new long[] {1, 1}, first.count(2), first.of(0, 4));
        LeftCrest last = reads(10, EIGHT + "mud 7;");
        Edge.row("mud on the last", new long[] {1, 1}, last.count(2), last.of(7, 4));
        Edge.due("drive 1", 1, reads(10, EIGHT + "drive 1;").now(0));
        Edge.due("drive 8", 8, reads(10, EIGHT + "drive 8;").now(0));
        Edge.due("drive 7, drive 1", 8, reads(11, EIGHT + "drive 7;drive 1;").now(0));
    }

    /** What each beginning of a text answers. */
    private static void endsTooEarly() {
        Edge.says(0, "the TEXT's length, if it ends too early (an empty one, too)");
        fault(0, "");
        fault(1, " ");
        fault(150, " ".repeat(150));
        String text = "road 0 4;bend 5 4 4 3; mud 0;drive 1;";
        int[] due = {0, 0, 0, 0, 4, 5, 6, 7, 8, -1, 9, 9, 9, 13, 14, 15, 16, 17, 18, 19, 20, 21, -2, -2, 23, 23, 26, 27, 28,
            -3, 29, 29, 29, 29, 34, 35, 36, -4};
        Edge.due("each length", text.length() + 1, due.length);
        for (int length = 0; length < due.length; length++) {
            String begun = text.substring(0, length);
            if (due[length] < 0) reads(-due[length], begun);
            else fault(due[length], begun);
        }
        fault(8, "road 0 0");
        fault(12, "road 0 0    ");
        fault(22, "road 0 0;bend 1 1 1 1 ");
        fault(12, "road 0 0;mud");
        fault(14, "road 0 0;drive");
    }

    private static void wordThatIsNone() {
        Edge.says(0, "a word that is none");
        fault(0, "roa");
        fault(0, "roads 0 0;");
        fault(0, "roadroad 0 0;");
        fault(0, "ro ad 0 0;");
        fault(0, "rxad 0 0;");
        fault(2, "  roae 0 0;");
        fault(9, "road 0 0;ben 1 1 1 1;");
        fault(9, "road 0 0;bends 1 1 1 1;");
        fault(9, "road 0 0;aend 1 1 1 1;");
        fault(22, "road 0 0;bend 1 1 1 1;mu 0;");
        fault(22, "road 0 0;bend 1 1 1 1;muds 0;");
        fault(22, "road 0 0;bend 1 1 1 1;driv 1;");
        fault(22, "road 0 0;bend 1 1 1 1;driver 1;");
        fault(9, "road 0 0;" + "z".repeat(141));
    }

    /** A letter goes on with a word, a figure with a number; all else ends them. */
    private static void wordsAndFigures() {
        Edge.says(0, "TOKENS: words of letters a .. z, figures (1 or 2 are one number), ;");
        for (int c = 0; c <= 127; c++) {
            boolean letter = c >= 'a' && c <= 'z';
            boolean kind = c >= '0' && c <= '5';
            if (kind) reads(1, "road" + (char) c + " 0;");
            else if (c == ' ') reads(1, "road" + (char) c + "0 0;");
            else fault(letter ? 0 : 4, "road" + (char) c + " 0;");
        }
        fault(12, "road 0 0;mud`0;");
        fault(12, "road 0 0;mud{0;");
        fault(9, "road 0 0;amud 0;");
        fault(9, "road 0 0;mudz 0;");
        fault(6, "road 0/0;");
        fault(6, "road 0:0;");
    }

    private static void roadAgain() {
        Edge.says(0, "road again");
        fault(9, "road 0 0;road 0 0;");
        fault(10, "road 0 0; road");
        fault(22, "road 0 0;bend 1 1 1 1;road 0 0;");
        fault(5, "road road 0 0;");
    }

    private static void aheadOfRoad() {
        Edge.says(0, "anything ahead of it");
        fault(0, "bend 1 1 1 1;road 0 0;");
        fault(1, " bend 1 1 1 1;");
        fault(0, "mud 0;road 0 0;");
        fault(0, "drive 1;road 0 0;");
        fault(0, ";road 0 0;");
        fault(2, "  ; road 0 0;");
        fault(0, "0 road 0 0;");
        fault(0, "12;");
        fault(0, "x road 0 0;");
    }

    private static void ninthBend() {
        Edge.says(0, "a 9th bend at its word");
        fault(EIGHT.length(), EIGHT + "bend 1 1 1 1;");
        fault(EIGHT.length() + 2, EIGHT + "  bend");
        fault(EIGHT.length() + 8, EIGHT + "drive 8;bend 1 1 1 1;");
        Edge.due("an 8th is none", 8, reads(9, EIGHT).count(0));
    }

    private static void threeFigures() {
        Edge.says(0, "a run of three figures or more (at its first one)");
        fault(0, "000");
        fault(5, "road 000 0;");
        fault(5, "road 001 0;");
        fault(7, "road 0 1000;");
        fault(14, "road 0 0;bend 001 1 1 1;");
        fault(17, "road 0 0;bend  1 001 1 1;");
        fault(18, "road 0 0;bend 1 1 001 1;");
        fault(20, "road 0 0;bend 1 1 1 001;");
        fault(26, "road 0 0;bend 1 1 1 1;mud 000;");
        fault(28, "road 0 0;bend 1 1 1 1;drive 001;");
        fault(9, "road 0 0 000;");
        fault(5, "road 4294967296 0;");
        fault(5, "road 18446744073709551616 0;");
        fault(0, "9".repeat(150));
        Edge.says(0, "figures (1 or 2 are one number)");
        LeftCrest x = reads(4, "road 05 09;bend 09 06 06 09;mud 00;drive 01;");
        Edge.row("two figures", new long[] {5, 9, 9, 6, 6, 9, 1, 1}, x.now(3), x.now(4), x.of(0, 0), x.of(0, 1), x.of(0, 2),
                x.of(0, 3), x.of(0, 4), x.now(0));
        fault(7, "road 00;");
        fault(7, "road 0 10;");
    }

    private static void numberNotAsTold() {
        Edge.says(0, "a number not as told");
        fault(5, "road 6 0;");
        fault(5, "road 10 0;");
        fault(5, "road 99 0;");
        fault(7, "road 0 10;");
        fault(7, "road 0 99;");
        fault(14, "road 0 0;bend 0 1 1 1;");
        fault(14, "road 0 0;bend 10 1 1 1;");
        fault(16, "road 0 0;bend 1 0 1 1;");
        fault(16, "road 0 0;bend 1 7 1 1;");
        fault(18, "road 0 0;bend 1 1 7 1;");
        fault(18, "road 0 0;bend 1 1 10 1;");
        fault(20, "road 0 0;bend 1 1 1 0;");
        fault(20, "road 0 0;bend 1 1 1 10;");
        fault(14, "road 0 0;bend 0 0 7 0;");
        fault(28, "road 0 0;bend 1 1 1 1;drive 0;");
        fault(28, "road 0 0;bend 1 1 1 1;drive 00;");
        fault(5, "road 6");
        fault(5, "road 6 10 #");
    }

    private static void bendNotThere() {
        Edge.says(0, "also a BEND that is not there yet");
        fault(13, "road 0 0;mud 0;");
        fault(13, "road 0 0;mud 0;bend 1 1 1 1;");
        fault(26, "road 0 0;bend 1 1 1 1;mud 1;bend 1 1 1 1;");
        fault(26, "road 0 0;bend 1 1 1 1;mud 99;");
        fault(EIGHT.length() + 4, EIGHT + "mud 8;");
        reads(3, "road 0 0;bend 1 1 1 1;mud 0;");
        reads(4, "road 0 0;bend 1 1 1 1;drive 1;mud 0;");
    }

    private static void moreThanAreLeft() {
        Edge.says(0, "more BENDS than are left");
        fault(15, "road 0 0;drive 1;");
        fault(28, "road 0 0;bend 1 1 1 1;drive 2;");
        fault(28, "road 0 0;bend 1 1 1 1;drive 2;bend 1 1 1 1;");
        fault(36, "road 0 0;bend 1 1 1 1;drive 1;drive 1;");
        fault(EIGHT.length() + 6, EIGHT + "drive 9;");
        fault(EIGHT.length() + 14, EIGHT + "drive 1;drive 8;");
        reads(5, "road 0 0;bend 1 1 1 1;drive 1;bend 1 1 1 1;drive 1;");
    }

    /** Each byte that there is, behind a whole item, between two numbers and ahead of all. */
    private static void byteThatBeginsNone() {
        Edge.says(0, "a byte that begins none, too");
        for (int c = 0; c <= 127; c++) {
            if (c == ' ') continue;
            fault(9, "road 0 0;" + (char) c);
            fault(0, (char) c + " road 0 0;");
            boolean figure = c >= '0' && c <= '9';
            fault(figure ? 5 : 6, "road 0" + (char) c + "0;");
        }
        fault(0, "Road 0 0;");
        fault(2, "  " + (char) 0);
        fault(21, "road 0 0;bend 1 1 1 1#");
        fault(21, "road 0 0;bend 1 1 1 1:");
        fault(4, "road\t0 0;");
        fault(5, "road -1 0;");
        fault(5, "road +1 0;");
    }

    private static void otherTokens() {
        Edge.says(0, "the place of the first byte of the first TOKEN that can not stand there");
        fault(4, "road;");
        fault(6, "road 0;");
        fault(9, "road 0 0 0;");
        fault(9, "road 0 0 bend 1 1 1 1;");
        fault(9, "road 0 0;;");
        fault(9, "road 0 0;0;");
        fault(13, "road 0 0;bend;");
        fault(19, "road 0 0;bend 1 1 1;");
        fault(22, "road 0 0;bend 1 1 1 1 1;");
        fault(25, "road 0 0;bend 1 1 1 1;mud;");
        fault(28, "road 0 0;bend 1 1 1 1;mud 0 0;");
        fault(27, "road 0 0;bend 1 1 1 1;drive;");
        fault(30, "road 0 0;bend 1 1 1 1;drive 1 1;");
        fault(9, "road 0 0;# road 9 9 9");
    }

    private static void blanks() {
        Edge.says(0, "blanks (32) between");
        reads(4, "   road   0   4  ;  bend  5  4  4  3  ;  mud  0 ;  drive  1  ;   ");
        reads(4, "road0 4;bend5 4 4 3;mud0;drive1;");
        reads(1, "road 0 4; ");
        fault(4, "road" + (char) 31 + "0 4;");
        fault(4, "road" + (char) 33 + "0 4;");
    }

    private static void fullText() {
        Edge.says(0, "a TEXT (150 bytes at most)");
        reads(1, "road 3 4;" + " ".repeat(141));
        Edge.due("; at the last place", 2, reads(1, " ".repeat(141) + "road 2 3;").now(3));
        fault(150, " ".repeat(142) + "road 4 3");
        fault(150, " ".repeat(146) + "road");
        fault(149, "road 3 4;" + " ".repeat(140) + "x");
        LeftCrest x = told("road 3 4;" + " ".repeat(141));
        x.type('x');
        Edge.due("a byte more has not come", 1, x.read());
    }

    private static void takesThePlace() {
        Edge.says(0, "A ROAD that is read takes the place of all but IMAGES, THE TEXT, THE FRACTION, STATUS "
                + "(FELT, PACES none; nothing to undo).");
        LeftCrest x = States.full();
        x.drive(0);
        x.drive(8);
        long[] status = Edge.status(x);
        long[] fraction = {x.part(0), x.part(1)};
        Edge.due("read", 5, x.read());
        Edge.row("count(0) to count(6)", new long[] {2, 2, 1, 0, 0, 0, 150}, x.count(0), x.count(1), x.count(2), x.count(3),
                x.count(4), x.count(5), x.count(6));
        Edge.row("now(0) to now(4)", new long[] {1, 9, 0, 1, 2}, x.now(0), x.now(1), x.now(2), x.now(3), x.now(4));
        Edge.row("THE FRACTION", fraction, x.part(0), x.part(1));
        Edge.row("STATUS", status, Edge.status(x));
        Edge.due("nothing to undo, though one was driven", LeftCrest.NO, x.undo());
        Edge.due("again, from the text as it is", 5, x.read());
        Edge.due("image 0", 1, x.from(0));
        Edge.due("image 0: bends", 8, x.count(0));
        x.read();
        Edge.due("image 1", 1, x.from(1));
        Edge.due("image 1: paces", 6, x.count(4));
    }
}
