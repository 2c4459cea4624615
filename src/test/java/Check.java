/** Counts the answers of a test that are not the ones that are due, and prints them. */
final class Check {
    static final long BAD = PairedLines.NO + PairedLines.BAD;
    static final long STATE = PairedLines.NO + PairedLines.STATE;
    static final long MUCH = PairedLines.NO + PairedLines.MUCH;
    static final long NOTHING = PairedLines.NO + PairedLines.NOTHING;
    static final long PLACE = PairedLines.NO + PairedLines.PLACE;

    private final String name;
    private int right = 0;
    private int wrong = 0;

    Check(String name) {
        this.name = name;
    }

    void due(String call, long got, long want) {
        if (got == want) {
            right++;
        } else {
            wrong++;
            System.out.println(name + ": " + call + " answered " + got + ", due is " + want);
        }
    }

    void holds(String what, boolean holds) {
        due(what, holds ? 1 : 0, 1);
    }

    /** Ends the program: with 1 if an answer was wrong, or if there was none at all. */
    void end() {
        System.out.println(name + ": " + right + " right, " + wrong + " wrong");
        System.exit(wrong == 0 && right > 0 ? 0 : 1);
    }

    /** A net whose POINTS are joined each with each, by LINES of one KIND and FIGURE. */
    static PairedLines whole(int points, int kind, int figure) {
        PairedLines x = new PairedLines();
        x.points(points);
        for (int a = 0; a < points; a++) {
            for (int b = a + 1; b < points; b++) {
                x.line(kind, figure, a, b);
            }
        }
        return x;
    }

    /** A net whose LINES go from POINT to POINT by numbers, the FIGURES being 1, 2, .. */
    static PairedLines path(int points) {
        PairedLines x = new PairedLines();
        x.points(points);
        for (int a = 0; a + 1 < points; a++) {
            x.line(0, a + 1, a, a + 1);
        }
        return x;
    }

    /** LINES of one FIGURE that do not meet: POINTS 0 and 1, 2 and 3, .. */
    static PairedLines apart(int lines, int kind, int figure) {
        PairedLines x = new PairedLines();
        x.points(2 * lines);
        for (int i = 0; i < lines; i++) {
            x.line(kind, figure, 2 * i, 2 * i + 1);
        }
        return x;
    }
}
