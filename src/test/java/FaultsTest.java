import java.util.List;

/** Every FAULT of every SHEET under several TESTS, compared with PlainCells. */
public final class FaultsTest {
    private static final Checks CHECKS = new Checks();
    private static final String GRAY = "gray";
    private static final String[] TEXTS = {
        "", "r", "zr", "or", "zror", "zrorzr", "ozrzor", "0r1r2r3r4r", "o4r3r2r1r0r",
        "01234r43210r", "rrr0rrr", "zo0z1o2z3o4rr", "ozo", GRAY,
    };
    /** The document promises 512 calls of one object; making it so takes some of them. */
    private static final int CALLS_OF_ONE = 400;

    private final int rows;
    private final int columns;
    private final String text;
    private final PlainCells plain = new PlainCells();
    private DisturbedCells real;
    private int calls;

    private FaultsTest(int rows, int columns, String text) {
        this.rows = rows;
        this.columns = columns;
        this.text = text;
        plain.sheet(rows, columns);
        plain.scramble(rows * columns - 1, 2, 5);
        if (text.equals(GRAY)) {
            plain.gray();
        } else {
            text.chars().forEach(plain::letter);
            plain.test();
        }
        renew();
    }

    public static void main(String[] args) {
        for (int rows = 3; rows <= 5; rows++) {
            for (int columns = 3; columns <= 5; columns++) {
                for (String text : TEXTS) {
                    new FaultsTest(rows, columns, text).compare();
                }
            }
        }
        CHECKS.end();
    }

    private void renew() {
        calls = 0;
        real = Checks.with(rows, columns, text.equals(GRAY) ? "" : text);
        real.scramble(rows * columns - 1, 2, 5);
        if (text.equals(GRAY)) real.gray();
    }

    private void due(int fault, int what, int want) {
        if (++calls > CALLS_OF_ONE) renew();
        CHECKS.due(rows + " by " + columns + ", " + text + ": run(" + fault + ", " + what + ")",
                real.run(fault, what), want);
    }

    private void compare() {
        for (int cell = 0; cell < plain.cells(); cell++) {
            List<Integer> faults = plain.faultsOf(cell);
            for (int fault = 1000 * cell; fault < 1000 * cell + 1000; fault++) {
                if (!faults.contains(fault)) {
                    due(fault, 0, DisturbedCells.UNKNOWN);
                    continue;
                }
                for (int what = 0; what <= 5; what++) {
                    due(fault, what, plain.run(fault, what));
                }
            }
        }
        renew();
        CHECKS.due(rows + " by " + columns + ", " + text + ": digest()", real.digest(), plain.digest());
    }
}
