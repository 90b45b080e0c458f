import java.util.List;
import java.util.function.Supplier;

/**
 * A state to test in, and what the document says of it, told beside the calls that make it. A Scene
 * makes as many objects in that state as a test wants: the document promises 512 calls of each.
 */
record Scene(String name, int rows, int columns, String steps, String page, Supplier<DisturbedCells> make) {
    static final String GRAY = "zr0r1r0r2r0r1r0r3r0r1r0r2r0r1r0r4r0r1r0r2r0r1r0r3r0r1r0r2r0r1r0r";
    static final String SIGNS = "zor01234";
    static final int MOST_LETTERS = 60;

    static List<Scene> all() {
        String full = "r".repeat(59) + "o";
        String wrongAtLast = "z".repeat(59) + "5";
        return List.of(
            new Scene("new", 4, 4, "", "", DisturbedCells::new),
            new Scene("no TEST, a page", 3, 3, "", "zq", () -> of(3, 3, "", "zq")),
            new Scene("a TEST of one sign", 4, 4, "r", "", () -> of(4, 4, "r", "")),
            new Scene("a TEST, a page that is one", 3, 5, "o0r1rz4r", "o", () -> scrambled(3, 5, 7, 14, 7, "o0r1rz4r", "o")),
            new Scene("a TEST of 60, a full page that is none", 5, 3, full, wrongAtLast,
                    () -> scrambled(5, 3, 14, 1, 31, full, wrongAtLast)),
            new Scene("GRAY, a full page that is a TEST", 5, 5, GRAY, full, () -> scrambled(5, 5, 24, 24, 21, GRAY, full)));
    }

    private static DisturbedCells of(int rows, int columns, String steps, String page) {
        DisturbedCells x = new DisturbedCells();
        x.sheet(rows, columns);
        read(x, steps);
        write(x, page);
        return x;
    }

    private static DisturbedCells scrambled(int rows, int columns, int factor, int shift, int turned, String steps,
            String page) {
        DisturbedCells x = of(rows, columns, steps, page);
        x.scramble(factor, shift, turned);
        return x;
    }

    static void write(DisturbedCells x, String text) {
        text.chars().forEach(x::letter);
    }

    /** Makes a text the TEST; THE PAGE has to be empty. */
    private static void read(DisturbedCells x, String steps) {
        if (steps.equals(GRAY)) {
            x.gray();
        } else {
            write(x, steps);
            x.test();
        }
    }

    int cells() {
        return rows * columns;
    }

    boolean isFull() {
        return page.length() == MOST_LETTERS;
    }

    boolean pageIsTest() {
        return page.matches("[" + SIGNS + "]+");
    }
}
