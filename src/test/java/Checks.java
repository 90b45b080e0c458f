/** Counts answers that are not as due, prints them, and ends a test's run. */
final class Checks {
    private int asked;
    private int wrong;

    void due(String call, long got, long want) {
        asked++;
        if (got != want) {
            wrong++;
            System.out.println(call + " answered " + got + ", due is " + want);
        }
    }

    void holds(String claim, boolean itDoes) {
        asked++;
        if (!itDoes) {
            wrong++;
            System.out.println("does not hold: " + claim);
        }
    }

    void end() {
        System.out.println(asked + " answers, " + wrong + " not as due");
        if (wrong > 0 || asked == 0) {
            System.exit(1);
        }
    }

    /** Writes a text on THE PAGE and reads it as the TEST. */
    static DisturbedCells with(DisturbedCells x, String text) {
        x.blank();
        for (int i = 0; i < text.length(); i++) {
            x.letter(text.charAt(i));
        }
        x.test();
        return x;
    }

    static DisturbedCells with(String text) {
        return with(new DisturbedCells(), text);
    }

    static DisturbedCells with(int rows, int columns, String text) {
        DisturbedCells x = new DisturbedCells();
        x.sheet(rows, columns);
        return with(x, text);
    }
}
