/** The terms: what a bend holds, at which pace each kind goes, what that costs, what refusing does. */
final class TermsEdges {
    private TermsEdges() {
    }

    static void run() {
        holds();
        plain();
        sight();
        brave();
        careful();
        ear();
        muddy();
        cost();
        crash();
        driving();
        firstOf();
    }

    private static void holds() {
        Edge.says(0, "HOLDS: TRUE, 1 less with MUD (1 at least).");
        int[] less = {0, 1, 1, 2, 3, 4, 5};
        for (int truth = 1; truth <= 6; truth++) {
            LeftCrest x = States.alike(1, 1, truth, 1, 1);
            Edge.due("TRUE " + truth + ", no mud", truth, x.of(0, 5));
            x.mud(0, 1);
            Edge.due("TRUE " + truth + ", mud", less[truth], x.of(0, 5));
            x.mud(0, 1);
            Edge.due("TRUE " + truth + ", mud told twice", less[truth], x.of(0, 5));
            Edge.due("TRUE " + truth + " itself stays", truth, x.of(0, 1));
            x.mud(0, 0);
            Edge.due("TRUE " + truth + ", mud no more", truth, x.of(0, 5));
        }
    }

    /** Paces by notes 0 .. 6, on a bend of this TRUE. */
    private static void paces(int kind, int fog, int mud, int truth, int... due) {
        LeftCrest x = States.alike(1, 1, truth, 0, 1);
        x.mud(0, mud);
        x.driver(kind, fog);
        for (int note = 0; note <= 6; note++) {
            String how = "fog " + fog + ", mud " + mud + ", TRUE " + truth + ", note " + note;
            Edge.due(how, due[note], x.pace(0, note, 0));
            x.write(0, note);
            Edge.due(how + " as it is", due[note], x.pace(0, LeftCrest.NONE, 0));
        }
    }

    /** Alike in every fog from one to another, with mud or not, however tight. */
    private static void always(int kind, int fogFirst, int fogLast, int... due) {
        for (int fog = fogFirst; fog <= fogLast; fog++) {
            for (int truth = 1; truth <= 6; truth++) {
                paces(kind, fog, 0, truth, due);
                paces(kind, fog, 1, truth, due);
            }
        }
    }

    private static void plain() {
        Edge.says(0, "0 PLAIN: n, 2 if that is 0.");
        always(0, 0, 9, 2, 1, 2, 3, 4, 5, 6);
    }

    private static void sight() {
        Edge.says(0, "t, if f is 3 or less, else as PLAIN.");
        for (int fog = 0; fog <= 3; fog++) {
            paces(1, fog, 0, 1, 1, 1, 1, 1, 1, 1, 1);
            paces(1, fog, 1, 1, 1, 1, 1, 1, 1, 1, 1);
            paces(1, fog, 0, 6, 6, 6, 6, 6, 6, 6, 6);
            paces(1, fog, 1, 6, 5, 5, 5, 5, 5, 5, 5);
        }
        always(1, 4, 9, 2, 1, 2, 3, 4, 5, 6);
    }

    private static void brave() {
        Edge.says(0, "1 more than PLAIN, 7 at most.");
        always(2, 0, 9, 3, 2, 3, 4, 5, 6, 7);
    }

    private static void careful() {
        Edge.says(0, "1 less than PLAIN, 1 at least.");
        always(3, 0, 9, 1, 1, 1, 2, 3, 4, 5);
    }

    private static void ear() {
        Edge.says(0, "as CAREFUL, 1 more, if f is below 7.");
        always(4, 0, 6, 2, 2, 2, 3, 4, 5, 6);
        always(4, 7, 9, 1, 1, 1, 2, 3, 4, 5);
    }

    private static void muddy() {
        Edge.says(0, "as BRAVE, 2 less with MUD (1 at least).");
        for (int truth = 1; truth <= 6; truth++) {
            for (int fog = 0; fog <= 9; fog++) {
                paces(5, fog, 0, truth, 3, 2, 3, 4, 5, 6, 7);
                paces(5, fog, 1, truth, 1, 1, 1, 2, 3, 4, 5);
            }
        }
    }

    /** Of a brave driver, who goes at 2 .. 7 by notes 1 .. 6. */
    private static void costs(int truth, int... due) {
        LeftCrest x = States.alike(1, 9, truth, 1, 1);
        x.driver(2, 0);
        for (int note = 1; note <= 6; note++) {
            Edge.due("TRUE " + truth + ", pace " + (note + 1), due[note - 1], x.pace(0, note, 1));
        }
    }

    private static void cost() {
        Edge.says(0, "3 for each that it is less than it HOLDS; 7, if it is 1 more; "
                + "60, if it is more than that (a CRASH); else 0.");
        costs(1, 7, 60, 60, 60, 60, 60);
        costs(2, 0, 7, 60, 60, 60, 60);
        costs(3, 3, 0, 7, 60, 60, 60);
        costs(4, 6, 3, 0, 7, 60, 60);
        costs(5, 9, 6, 3, 0, 7, 60);
        costs(6, 12, 9, 6, 3, 0, 7);
        LeftCrest slowest = States.alike(1, 1, 6, 1, 1);
        Edge.due("5 less than it holds", 15, slowest.pace(0, 1, 1));
        Edge.due("as it holds, 1", 0, States.alike(1, 1, 1, 1, 1).pace(0, 1, 1));
    }

    private static void crash() {
        Edge.says(0, "60, if it is more than that (a CRASH)");
        for (int note = 1; note <= 6; note++) {
            LeftCrest x = States.alike(1, 9, 3, note, 1);
            x.drive(1);
            Edge.due("it holds 3, at pace " + note, note >= 5 ? 1 : 0, x.now(2));
        }
        LeftCrest y = States.alike(8, 9, 1, 6, 1);
        y.drive(8);
        Edge.due("eight of eight", 8, y.now(2));
        Edge.due("the most seconds that may be", 8 * 69, y.now(1));
    }

    private static void driving() {
        Edge.says(0, "SECONDS are its YARDS and COST more; THE BEND is one more.");
        LeftCrest x = States.bends(new int[] {1, 4, 4, 1}, new int[] {9, 3, 5, 1}, new int[] {5, 6, 0, 1});
        int[][] due = {{1, 1}, {2, 1 + 69}, {3, 1 + 69 + 17}};
        for (int[] row : due) {
            x.drive(1);
            Edge.due("THE BEND", row[0], x.now(0));
            Edge.due("SECONDS", row[1], x.now(1));
        }
    }

    /** What more than one reason bars is told by the first. */
    private static void firstOf() {
        Edge.says(0, "Refused, changing nothing but STATUS, the first of: "
                + "BAD -2 a number is not as told; NO -3 as told; FULL -4");
        Edge.refused(LeftCrest.BAD, States::full, x -> x.bend(9, 6, 6, 10));
        Edge.refused(LeftCrest.BAD, States::full, x -> x.type(128));
        Edge.refused(LeftCrest.BAD, States::full, x -> x.felt(7));
        Edge.refused(LeftCrest.BAD, States::full, x -> x.seen(6, 6, 9, 1, 8));
        Edge.refused(LeftCrest.BAD, States::drivenOut, x -> x.drive(9));
        Edge.refused(LeftCrest.BAD, States::drivenOut, x -> x.drive(0));
        Edge.refused(LeftCrest.BAD, LeftCrest::new, x -> x.from(2));
        Edge.says(0, "(where others are told they count as these)");
        Edge.refused(LeftCrest.BAD, -1000, States::full, x -> x.wrong(8));
        Edge.refused(LeftCrest.BAD, -1, States::full, x -> x.status(3));
    }
}
